theorem dX7_minutes_41 : decode cX7_minutes 41 = .ok (.istore_n 2, 1) := by decide +kernel
theorem dX7_minutes_42 : decode cX7_minutes 42 = .ok (.iload_n 2, 1) := by decide +kernel
theorem dX7_minutes_43 : decode cX7_minutes 43 = .ok (.iload_n 1, 1) := by decide +kernel
theorem dX7_minutes_44 : decode cX7_minutes 44 = .ok (.if_icmp .ge 21, 3) := by decide +kernel
theorem dX7_minutes_47 : decode cX7_minutes 47 = .ok (.aload_n 0, 1) := by decide +kernel
theorem dX7_minutes_48 : decode cX7_minutes 48 = .ok (.invokevirtual 170, 3) := by decide +kernel
theorem dX7_minutes_51 : decode cX7_minutes 51 = .ok (.aload_n 0, 1) := by decide +kernel
theorem dX7_minutes_52 : decode cX7_minutes 52 = .ok (.aload_n 0, 1) := by decide +kernel
theorem dX7_minutes_53 : decode cX7_minutes 53 = .ok (.getfield 25, 3) := by decide +kernel
theorem dX7_minutes_56 : decode cX7_minutes 56 = .ok (.invokevirtual 173, 3) := by decide +kernel
theorem dX7_minutes_59 : decode cX7_minutes 59 = .ok (.iinc 2 1, 3) := by decide +kernel
theorem dX7_minutes_62 : decode cX7_minutes 62 = .ok (.goto (-20), 3) := by decide +kernel
theorem dX7_minutes_65 : decode cX7_minutes 65 = .ok (.aload_n 0, 1) := by decide +kernel
theorem dX7_minutes_66 : decode cX7_minutes 66 = .ok (.getfield 25, 3) := by decide +kernel
theorem dX7_minutes_69 : decode cX7_minutes 69 = .ok (.iconst 4, 1) := by decide +kernel
theorem dX7_minutes_70 : decode cX7_minutes 70 = .ok (.iaload, 1) := by decide +kernel
theorem dX7_minutes_71 : decode cX7_minutes 71 = .ok (.ireturn, 1) := by decide +kernel
set_option maxRecDepth 20000 in
theorem ggX7_hire_X7_isGuest : GoodIn wsX7_hire wsX7_isGuest := goodIn_r _ [8, 2, 9, 10, 7, 11, 28, 29, 30, 31, 32, 33, 34, 35, 36, 37, 38, 39, 40, 41, 42, 43, 44, 45, 46, 47, 48, 49, 50, 51] (by decide +kernel) (by decide +kernel)
set_option maxRecDepth 20000 in
theorem gX7_hire_X7_isGuest : GoodIn wsX7_hire (wsV RX7 177 RX7 yX7_isGuest wsX7_isGuest) := goodIn_app (goodIn_of _ (by decide +kernel)) ggX7_hire_X7_isGuest
set_option maxRecDepth 20000 in
theorem ggX7_hire_X7_in : GoodIn wsX7_hire wsX7_in := goodIn_r _ [11] (by decide +kernel) (by decide +kernel)
set_option maxRecDepth 20000 in
theorem gX7_hire_X7_in : GoodIn wsX7_hire (va_wsS RX7 59 yX7_in wsX7_in) := goodIn_app (goodIn_of _ (by decide +kernel)) ggX7_hire_X7_in
set_option maxRecDepth 20000 in
theorem ggX7_hire_X7_notes : GoodIn wsX7_hire wsX7_notes := goodIn_r _ [15, 16, 17, 2, 18, 19, 7, 20, 28, 29, 30, 31, 32, 33, 34, 35, 36, 37, 38, 39, 40, 41, 42, 43, 44, 45, 46, 47, 48, 49, 50, 51] (by decide +kernel) (by decide +kernel)
set_option maxRecDepth 20000 in
theorem gX7_hire_X7_notes : GoodIn wsX7_hire (wsV RX7 170 RX7 yX7_notes wsX7_notes) := goodIn_app (goodIn_of _ (by decide +kernel)) ggX7_hire_X7_notes
set_option maxRecDepth 20000 in
theorem ggX7_hire_X7_hires : GoodIn wsX7_hire wsX7_hires := goodIn_r _ [23] (by decide +kernel) (by decide +kernel)
set_option maxRecDepth 20000 in
theorem gX7_hire_X7_hires : GoodIn wsX7_hire (va_wsS RX7 180 yX7_hires wsX7_hires) := goodIn_app (goodIn_of _ (by decide +kernel)) ggX7_hire_X7_hires
set_option maxRecDepth 20000 in
theorem ggX7_hire_X7_hired : GoodIn wsX7_hire wsX7_hired := goodIn_r _ [27, 2, 28, 29, 30, 31, 32, 33, 34, 35, 36, 37, 38, 39, 40, 41, 42, 43, 44, 45, 46, 47, 48, 49, 50, 51] (by decide +kernel) (by decide +kernel)
set_option maxRecDepth 20000 in
theorem gX7_hire_X7_hired : GoodIn wsX7_hire (wsV RX7 184 RX7 yX7_hired wsX7_hired) := goodIn_app (goodIn_of _ (by decide +kernel)) ggX7_hire_X7_hired
theorem dX7_hire_0 : decode cX7_hire 0 = .ok (.aload_n 0, 1) := by decide +kernel
theorem dX7_hire_1 : decode cX7_hire 1 = .ok (.iload_n 1, 1) := by decide +kernel
theorem dX7_hire_2 : decode cX7_hire 2 = .ok (.invokevirtual 177, 3) := by decide +kernel
theorem dX7_hire_5 : decode cX7_hire 5 = .ok (.ifCond .eq 12, 3) := by decide +kernel
theorem dX7_hire_8 : decode cX7_hire 8 = .ok (.iload_n 2, 1) := by decide +kernel
theorem dX7_hire_9 : decode cX7_hire 9 = .ok (.iconst 0, 1) := by decide +kernel
theorem dX7_hire_10 : decode cX7_hire 10 = .ok (.iconst 1, 1) := by decide +kernel
theorem dX7_hire_11 : decode cX7_hire 11 = .ok (.invokestatic 59, 3) := by decide +kernel
theorem dX7_hire_14 : decode cX7_hire 14 = .ok (.ifCond .ne 6, 3) := by decide +kernel
theorem dX7_hire_17 : decode cX7_hire 17 = .ok (.ldc 67, 2) := by decide +kernel
theorem dX7_hire_19 : decode cX7_hire 19 = .ok (.ireturn, 1) := by decide +kernel
theorem dX7_hire_20 : decode cX7_hire 20 = .ok (.aload_n 0, 1) := by decide +kernel
theorem dX7_hire_21 : decode cX7_hire 21 = .ok (.getfield 25, 3) := by decide +kernel
theorem dX7_hire_24 : decode cX7_hire 24 = .ok (.bipush 6, 2) := by decide +kernel
theorem dX7_hire_26 : decode cX7_hire 26 = .ok (.bipush 7, 2) := by decide +kernel
theorem dX7_hire_28 : decode cX7_hire 28 = .ok (.iload_n 1, 1) := by decide +kernel
theorem dX7_hire_29 : decode cX7_hire 29 = .ok (.imul, 1) := by decide +kernel
theorem dX7_hire_30 : decode cX7_hire 30 = .ok (.iadd, 1) := by decide +kernel
theorem dX7_hire_31 : decode cX7_hire 31 = .ok (.iconst 5, 1) := by decide +kernel
theorem dX7_hire_32 : decode cX7_hire 32 = .ok (.iadd, 1) := by decide +kernel
theorem dX7_hire_33 : decode cX7_hire 33 = .ok (.iaload, 1) := by decide +kernel
theorem dX7_hire_34 : decode cX7_hire 34 = .ok (.iload_n 2, 1) := by decide +kernel
theorem dX7_hire_35 : decode cX7_hire 35 = .ok (.if_icmp .ne 6, 3) := by decide +kernel
theorem dX7_hire_38 : decode cX7_hire 38 = .ok (.ldc 169, 2) := by decide +kernel
theorem dX7_hire_40 : decode cX7_hire 40 = .ok (.ireturn, 1) := by decide +kernel
theorem dX7_hire_41 : decode cX7_hire 41 = .ok (.aload_n 0, 1) := by decide +kernel
theorem dX7_hire_42 : decode cX7_hire 42 = .ok (.invokevirtual 170, 3) := by decide +kernel
theorem dX7_hire_45 : decode cX7_hire 45 = .ok (.aload_n 0, 1) := by decide +kernel
theorem dX7_hire_46 : decode cX7_hire 46 = .ok (.getfield 25, 3) := by decide +kernel
theorem dX7_hire_49 : decode cX7_hire 49 = .ok (.iload_n 1, 1) := by decide +kernel
theorem dX7_hire_50 : decode cX7_hire 50 = .ok (.iload_n 2, 1) := by decide +kernel
theorem dX7_hire_51 : decode cX7_hire 51 = .ok (.invokestatic 180, 3) := by decide +kernel
theorem dX7_hire_54 : decode cX7_hire 54 = .ok (.aload_n 0, 1) := by decide +kernel
theorem dX7_hire_55 : decode cX7_hire 55 = .ok (.invokevirtual 184, 3) := by decide +kernel
theorem dX7_hire_58 : decode cX7_hire 58 = .ok (.ireturn, 1) := by decide +kernel
set_option maxRecDepth 20000 in
theorem ggX7_swap_X7_isGuest : GoodIn wsX7_swap wsX7_isGuest := goodIn_r _ [7, 2, 8, 9, 6, 10, 23, 24, 25, 26, 27, 28, 29, 30, 31, 32, 33, 34, 35, 36, 37, 38, 39, 40, 41, 42, 43, 44, 45, 46] (by decide +kernel) (by decide +kernel)
set_option maxRecDepth 20000 in
theorem gX7_swap_X7_isGuest : GoodIn wsX7_swap (wsV RX7 177 RX7 yX7_isGuest wsX7_isGuest) := goodIn_app (goodIn_of _ (by decide +kernel)) ggX7_swap_X7_isGuest
set_option maxRecDepth 20000 in
theorem ggX7_swap_X7_notes : GoodIn wsX7_swap wsX7_notes := goodIn_r _ [14, 15, 16, 2, 17, 18, 6, 19, 23, 24, 25, 26, 27, 28, 29, 30, 31, 32, 33, 34, 35, 36, 37, 38, 39, 40, 41, 42, 43, 44, 45, 46] (by decide +kernel) (by decide +kernel)
set_option maxRecDepth 20000 in
theorem gX7_swap_X7_notes : GoodIn wsX7_swap (wsV RX7 170 RX7 yX7_notes wsX7_notes) := goodIn_app (goodIn_of _ (by decide +kernel)) ggX7_swap_X7_notes
set_option maxRecDepth 20000 in
theorem ggX7_swap_X7_changes : GoodIn wsX7_swap wsX7_changes := goodIn_r _ [22] (by decide +kernel) (by decide +kernel)
set_option maxRecDepth 20000 in
theorem gX7_swap_X7_changes : GoodIn wsX7_swap (va_wsS RX7 188 yX7_changes wsX7_changes) := goodIn_app (goodIn_of _ (by decide +kernel)) ggX7_swap_X7_changes
theorem dX7_swap_0 : decode cX7_swap 0 = .ok (.aload_n 0, 1) := by decide +kernel
theorem dX7_swap_1 : decode cX7_swap 1 = .ok (.iload_n 1, 1) := by decide +kernel
theorem dX7_swap_2 : decode cX7_swap 2 = .ok (.invokevirtual 177, 3) := by decide +kernel
theorem dX7_swap_5 : decode cX7_swap 5 = .ok (.ifCond .eq 16, 3) := by decide +kernel
theorem dX7_swap_8 : decode cX7_swap 8 = .ok (.aload_n 0, 1) := by decide +kernel
theorem dX7_swap_9 : decode cX7_swap 9 = .ok (.iload_n 2, 1) := by decide +kernel
theorem dX7_swap_10 : decode cX7_swap 10 = .ok (.invokevirtual 177, 3) := by decide +kernel
theorem dX7_swap_13 : decode cX7_swap 13 = .ok (.ifCond .eq 8, 3) := by decide +kernel
theorem dX7_swap_16 : decode cX7_swap 16 = .ok (.iload_n 1, 1) := by decide +kernel
theorem dX7_swap_17 : decode cX7_swap 17 = .ok (.iload_n 2, 1) := by decide +kernel
theorem dX7_swap_18 : decode cX7_swap 18 = .ok (.if_icmp .ne 6, 3) := by decide +kernel
theorem dX7_swap_21 : decode cX7_swap 21 = .ok (.ldc 67, 2) := by decide +kernel
theorem dX7_swap_23 : decode cX7_swap 23 = .ok (.ireturn, 1) := by decide +kernel
theorem dX7_swap_24 : decode cX7_swap 24 = .ok (.aload_n 0, 1) := by decide +kernel
theorem dX7_swap_25 : decode cX7_swap 25 = .ok (.invokevirtual 170, 3) := by decide +kernel
theorem dX7_swap_28 : decode cX7_swap 28 = .ok (.aload_n 0, 1) := by decide +kernel
theorem dX7_swap_29 : decode cX7_swap 29 = .ok (.getfield 25, 3) := by decide +kernel
theorem dX7_swap_32 : decode cX7_swap 32 = .ok (.iload_n 1, 1) := by decide +kernel
theorem dX7_swap_33 : decode cX7_swap 33 = .ok (.iload_n 2, 1) := by decide +kernel
theorem dX7_swap_34 : decode cX7_swap 34 = .ok (.invokestatic 188, 3) := by decide +kernel
theorem dX7_swap_37 : decode cX7_swap 37 = .ok (.aload_n 0, 1) := by decide +kernel
theorem dX7_swap_38 : decode cX7_swap 38 = .ok (.getfield 25, 3) := by decide +kernel
theorem dX7_swap_41 : decode cX7_swap 41 = .ok (.bipush 6, 2) := by decide +kernel
theorem dX7_swap_43 : decode cX7_swap 43 = .ok (.bipush 7, 2) := by decide +kernel
theorem dX7_swap_45 : decode cX7_swap 45 = .ok (.iload_n 1, 1) := by decide +kernel
theorem dX7_swap_46 : decode cX7_swap 46 = .ok (.imul, 1) := by decide +kernel
theorem dX7_swap_47 : decode cX7_swap 47 = .ok (.iadd, 1) := by decide +kernel
theorem dX7_swap_48 : decode cX7_swap 48 = .ok (.iconst 4, 1) := by decide +kernel
theorem dX7_swap_49 : decode cX7_swap 49 = .ok (.iadd, 1) := by decide +kernel
theorem dX7_swap_50 : decode cX7_swap 50 = .ok (.iaload, 1) := by decide +kernel
theorem dX7_swap_51 : decode cX7_swap 51 = .ok (.ireturn, 1) := by decide +kernel
set_option maxRecDepth 20000 in
theorem ggX7_hymns_X7_isWedding : GoodIn wsX7_hymns wsX7_isWedding := goodIn_r _ [8, 3, 21, 22, 23, 24, 25, 26, 27, 28, 29, 30, 31, 32, 33, 34, 35, 36, 37, 38, 39, 40, 41, 42, 43, 44] (by decide +kernel) (by decide +kernel)
set_option maxRecDepth 20000 in
theorem gX7_hymns_X7_isWedding : GoodIn wsX7_hymns (wsV RX7 166 RX7 yX7_isWedding wsX7_isWedding) := goodIn_app (goodIn_of _ (by decide +kernel)) ggX7_hymns_X7_isWedding
set_option maxRecDepth 20000 in
theorem ggX7_hymns_X7_in : GoodIn wsX7_hymns wsX7_in := goodIn_r _ [11] (by decide +kernel) (by decide +kernel)
set_option maxRecDepth 20000 in
theorem gX7_hymns_X7_in : GoodIn wsX7_hymns (va_wsS RX7 59 yX7_in wsX7_in) := goodIn_app (goodIn_of _ (by decide +kernel)) ggX7_hymns_X7_in
set_option maxRecDepth 20000 in
theorem ggX7_hymns_X7_notes : GoodIn wsX7_hymns wsX7_notes := goodIn_r _ [15, 16, 17, 3, 18, 19, 7, 20, 21, 22, 23, 24, 25, 26, 27, 28, 29, 30, 31, 32, 33, 34, 35, 36, 37, 38, 39, 40, 41, 42, 43, 44] (by decide +kernel) (by decide +kernel)
set_option maxRecDepth 20000 in
theorem gX7_hymns_X7_notes : GoodIn wsX7_hymns (wsV RX7 170 RX7 yX7_notes wsX7_notes) := goodIn_app (goodIn_of _ (by decide +kernel)) ggX7_hymns_X7_notes
theorem dX7_hymns_0 : decode cX7_hymns 0 = .ok (.aload_n 0, 1) := by decide +kernel
theorem dX7_hymns_1 : decode cX7_hymns 1 = .ok (.invokevirtual 166, 3) := by decide +kernel
theorem dX7_hymns_4 : decode cX7_hymns 4 = .ok (.ifCond .ne 6, 3) := by decide +kernel
theorem dX7_hymns_7 : decode cX7_hymns 7 = .ok (.ldc 169, 2) := by decide +kernel
theorem dX7_hymns_9 : decode cX7_hymns 9 = .ok (.ireturn, 1) := by decide +kernel
theorem dX7_hymns_10 : decode cX7_hymns 10 = .ok (.iload_n 1, 1) := by decide +kernel
theorem dX7_hymns_11 : decode cX7_hymns 11 = .ok (.iconst 0, 1) := by decide +kernel
theorem dX7_hymns_12 : decode cX7_hymns 12 = .ok (.bipush 15, 2) := by decide +kernel
theorem dX7_hymns_14 : decode cX7_hymns 14 = .ok (.invokestatic 59, 3) := by decide +kernel
theorem dX7_hymns_17 : decode cX7_hymns 17 = .ok (.ifCond .ne 6, 3) := by decide +kernel
theorem dX7_hymns_20 : decode cX7_hymns 20 = .ok (.ldc 67, 2) := by decide +kernel
theorem dX7_hymns_22 : decode cX7_hymns 22 = .ok (.ireturn, 1) := by decide +kernel
theorem dX7_hymns_23 : decode cX7_hymns 23 = .ok (.aload_n 0, 1) := by decide +kernel
theorem dX7_hymns_24 : decode cX7_hymns 24 = .ok (.invokevirtual 170, 3) := by decide +kernel
theorem dX7_hymns_27 : decode cX7_hymns 27 = .ok (.aload_n 0, 1) := by decide +kernel
theorem dX7_hymns_28 : decode cX7_hymns 28 = .ok (.getfield 25, 3) := by decide +kernel
theorem dX7_hymns_31 : decode cX7_hymns 31 = .ok (.iconst 1, 1) := by decide +kernel
theorem dX7_hymns_32 : decode cX7_hymns 32 = .ok (.iaload, 1) := by decide +kernel
theorem dX7_hymns_33 : decode cX7_hymns 33 = .ok (.istore_n 2, 1) := by decide +kernel
theorem dX7_hymns_34 : decode cX7_hymns 34 = .ok (.aload_n 0, 1) := by decide +kernel
theorem dX7_hymns_35 : decode cX7_hymns 35 = .ok (.getfield 25, 3) := by decide +kernel
theorem dX7_hymns_38 : decode cX7_hymns 38 = .ok (.iconst 1, 1) := by decide +kernel
theorem dX7_hymns_39 : decode cX7_hymns 39 = .ok (.iload_n 1, 1) := by decide +kernel
theorem dX7_hymns_40 : decode cX7_hymns 40 = .ok (.iastore, 1) := by decide +kernel
theorem dX7_hymns_41 : decode cX7_hymns 41 = .ok (.iload_n 2, 1) := by decide +kernel
theorem dX7_hymns_42 : decode cX7_hymns 42 = .ok (.ireturn, 1) := by decide +kernel
set_option maxRecDepth 20000 in
theorem ggX7_undo_X7_copies : GoodIn wsX7_undo wsX7_copies := goodIn_r _ [8] (by decide +kernel) (by decide +kernel)
set_option maxRecDepth 20000 in
theorem gX7_undo_X7_copies : GoodIn wsX7_undo (va_wsS RX7 138 yX7_copies wsX7_copies) := goodIn_app (goodIn_of _ (by decide +kernel)) ggX7_undo_X7_copies
theorem dX7_undo_0 : decode cX7_undo 0 = .ok (.aload_n 0, 1) := by decide +kernel
theorem dX7_undo_1 : decode cX7_undo 1 = .ok (.getfield 142, 3) := by decide +kernel
theorem dX7_undo_4 : decode cX7_undo 4 = .ok (.ifCond .ne 6, 3) := by decide +kernel
theorem dX7_undo_7 : decode cX7_undo 7 = .ok (.ldc 169, 2) := by decide +kernel
theorem dX7_undo_9 : decode cX7_undo 9 = .ok (.ireturn, 1) := by decide +kernel
theorem dX7_undo_10 : decode cX7_undo 10 = .ok (.aload_n 0, 1) := by decide +kernel
theorem dX7_undo_11 : decode cX7_undo 11 = .ok (.dup, 1) := by decide +kernel
theorem dX7_undo_12 : decode cX7_undo 12 = .ok (.getfield 142, 3) := by decide +kernel
theorem dX7_undo_15 : decode cX7_undo 15 = .ok (.iconst 1, 1) := by decide +kernel
theorem dX7_undo_16 : decode cX7_undo 16 = .ok (.isub, 1) := by decide +kernel
theorem dX7_undo_17 : decode cX7_undo 17 = .ok (.putfield 142, 3) := by decide +kernel
theorem dX7_undo_20 : decode cX7_undo 20 = .ok (.aload_n 0, 1) := by decide +kernel
theorem dX7_undo_21 : decode cX7_undo 21 = .ok (.getfield 34, 3) := by decide +kernel
theorem dX7_undo_24 : decode cX7_undo 24 = .ok (.bipush 55, 2) := by decide +kernel
theorem dX7_undo_26 : decode cX7_undo 26 = .ok (.aload_n 0, 1) := by decide +kernel
theorem dX7_undo_27 : decode cX7_undo 27 = .ok (.getfield 142, 3) := by decide +kernel
theorem dX7_undo_30 : decode cX7_undo 30 = .ok (.imul, 1) := by decide +kernel
theorem dX7_undo_31 : decode cX7_undo 31 = .ok (.aload_n 0, 1) := by decide +kernel
theorem dX7_undo_32 : decode cX7_undo 32 = .ok (.getfield 25, 3) := by decide +kernel
theorem dX7_undo_35 : decode cX7_undo 35 = .ok (.iconst 0, 1) := by decide +kernel
theorem dX7_undo_36 : decode cX7_undo 36 = .ok (.invokestatic 138, 3) := by decide +kernel
theorem dX7_undo_39 : decode cX7_undo 39 = .ok (.aload_n 0, 1) := by decide +kernel
theorem dX7_undo_40 : decode cX7_undo 40 = .ok (.getfield 142, 3) := by decide +kernel
theorem dX7_undo_43 : decode cX7_undo 43 = .ok (.ireturn, 1) := by decide +kernel
set_option maxRecDepth 20000 in
theorem ggX7_guest_X7_isGuest : GoodIn wsX7_guest wsX7_isGuest := goodIn_r _ [7, 2, 8, 9, 6, 10, 30, 31, 32, 33, 34, 35, 36, 37, 38, 39, 40, 41, 42, 43, 44, 45, 46, 47, 48, 49, 50, 51, 52, 53] (by decide +kernel) (by decide +kernel)
set_option maxRecDepth 20000 in
theorem gX7_guest_X7_isGuest : GoodIn wsX7_guest (wsV RX7 177 RX7 yX7_isGuest wsX7_isGuest) := goodIn_app (goodIn_of _ (by decide +kernel)) ggX7_guest_X7_isGuest
set_option maxRecDepth 20000 in
theorem ggX7_guest_X7_in : GoodIn wsX7_guest wsX7_in := goodIn_r _ [10] (by decide +kernel) (by decide +kernel)
set_option maxRecDepth 20000 in
theorem gX7_guest_X7_in : GoodIn wsX7_guest (va_wsS RX7 59 yX7_in wsX7_in) := goodIn_app (goodIn_of _ (by decide +kernel)) ggX7_guest_X7_in
set_option maxRecDepth 20000 in
theorem ggX7_guest_X7_would : GoodIn wsX7_guest wsX7_would := goodIn_r _ [13, 14, 15, 6, 16, 17, 18, 19, 20, 21, 22, 23, 24, 25, 26, 27, 28, 29] (by decide +kernel) (by decide +kernel)
set_option maxRecDepth 20000 in
theorem gX7_guest_X7_would : GoodIn wsX7_guest (va_wsS RX7 162 yX7_would wsX7_would) := goodIn_app (goodIn_of _ (by decide +kernel)) ggX7_guest_X7_would
theorem dX7_guest_0 : decode cX7_guest 0 = .ok (.aload_n 0, 1) := by decide +kernel
theorem dX7_guest_1 : decode cX7_guest 1 = .ok (.iload_n 1, 1) := by decide +kernel
theorem dX7_guest_2 : decode cX7_guest 2 = .ok (.invokevirtual 177, 3) := by decide +kernel
theorem dX7_guest_5 : decode cX7_guest 5 = .ok (.ifCond .eq 13, 3) := by decide +kernel
theorem dX7_guest_8 : decode cX7_guest 8 = .ok (.iload_n 2, 1) := by decide +kernel
theorem dX7_guest_9 : decode cX7_guest 9 = .ok (.iconst 0, 1) := by decide +kernel
theorem dX7_guest_10 : decode cX7_guest 10 = .ok (.bipush 6, 2) := by decide +kernel
theorem dX7_guest_12 : decode cX7_guest 12 = .ok (.invokestatic 59, 3) := by decide +kernel
theorem dX7_guest_15 : decode cX7_guest 15 = .ok (.ifCond .ne 6, 3) := by decide +kernel
theorem dX7_guest_18 : decode cX7_guest 18 = .ok (.ldc 67, 2) := by decide +kernel
theorem dX7_guest_20 : decode cX7_guest 20 = .ok (.ireturn, 1) := by decide +kernel
theorem dX7_guest_21 : decode cX7_guest 21 = .ok (.iload_n 2, 1) := by decide +kernel
theorem dX7_guest_22 : decode cX7_guest 22 = .ok (.bipush 6, 2) := by decide +kernel
theorem dX7_guest_24 : decode cX7_guest 24 = .ok (.if_icmp .ne 14, 3) := by decide +kernel
theorem dX7_guest_27 : decode cX7_guest 27 = .ok (.aload_n 0, 1) := by decide +kernel
theorem dX7_guest_28 : decode cX7_guest 28 = .ok (.getfield 25, 3) := by decide +kernel
theorem dX7_guest_31 : decode cX7_guest 31 = .ok (.iload_n 1, 1) := by decide +kernel
theorem dX7_guest_32 : decode cX7_guest 32 = .ok (.invokestatic 162, 3) := by decide +kernel
theorem dX7_guest_35 : decode cX7_guest 35 = .ok (.goto 19, 3) := by decide +kernel
theorem dX7_guest_38 : decode cX7_guest 38 = .ok (.aload_n 0, 1) := by decide +kernel
theorem dX7_guest_39 : decode cX7_guest 39 = .ok (.getfield 25, 3) := by decide +kernel
theorem dX7_guest_42 : decode cX7_guest 42 = .ok (.bipush 6, 2) := by decide +kernel
theorem dX7_guest_44 : decode cX7_guest 44 = .ok (.bipush 7, 2) := by decide +kernel
theorem dX7_guest_46 : decode cX7_guest 46 = .ok (.iload_n 1, 1) := by decide +kernel
theorem dX7_guest_47 : decode cX7_guest 47 = .ok (.imul, 1) := by decide +kernel
theorem dX7_guest_48 : decode cX7_guest 48 = .ok (.iadd, 1) := by decide +kernel
theorem dX7_guest_49 : decode cX7_guest 49 = .ok (.iconst 1, 1) := by decide +kernel
theorem dX7_guest_50 : decode cX7_guest 50 = .ok (.iadd, 1) := by decide +kernel
theorem dX7_guest_51 : decode cX7_guest 51 = .ok (.iload_n 2, 1) := by decide +kernel
theorem dX7_guest_52 : decode cX7_guest 52 = .ok (.iadd, 1) := by decide +kernel
theorem dX7_guest_53 : decode cX7_guest 53 = .ok (.iaload, 1) := by decide +kernel
theorem dX7_guest_54 : decode cX7_guest 54 = .ok (.ireturn, 1) := by decide +kernel
set_option maxRecDepth 20000 in
theorem ggX7_seat_X7_isGuest : GoodIn wsX7_seat wsX7_isGuest := goodIn_r _ [7, 1, 8, 9, 6, 10, 15, 16, 17, 18, 19, 20, 21, 22, 23, 24, 25, 26, 27, 28, 29, 30, 31, 32, 33, 34, 35, 36, 37, 38] (by decide +kernel) (by decide +kernel)
set_option maxRecDepth 20000 in
theorem gX7_seat_X7_isGuest : GoodIn wsX7_seat (wsV RX7 177 RX7 yX7_isGuest wsX7_isGuest) := goodIn_app (goodIn_of _ (by decide +kernel)) ggX7_seat_X7_isGuest
set_option maxRecDepth 20000 in
theorem ggX7_seat_X7_inSeat : GoodIn wsX7_seat wsX7_inSeat := goodIn_r _ [13, 14] (by decide +kernel) (by decide +kernel)
set_option maxRecDepth 20000 in
theorem gX7_seat_X7_inSeat : GoodIn wsX7_seat (va_wsS RX7 145 yX7_inSeat wsX7_inSeat) := goodIn_app (goodIn_of _ (by decide +kernel)) ggX7_seat_X7_inSeat
theorem dX7_seat_0 : decode cX7_seat 0 = .ok (.aload_n 0, 1) := by decide +kernel
theorem dX7_seat_1 : decode cX7_seat 1 = .ok (.iload_n 1, 1) := by decide +kernel
theorem dX7_seat_2 : decode cX7_seat 2 = .ok (.invokevirtual 177, 3) := by decide +kernel
theorem dX7_seat_5 : decode cX7_seat 5 = .ok (.ifCond .eq 14, 3) := by decide +kernel
theorem dX7_seat_8 : decode cX7_seat 8 = .ok (.aload_n 0, 1) := by decide +kernel
theorem dX7_seat_9 : decode cX7_seat 9 = .ok (.getfield 25, 3) := by decide +kernel
theorem dX7_seat_12 : decode cX7_seat 12 = .ok (.iload_n 1, 1) := by decide +kernel
theorem dX7_seat_13 : decode cX7_seat 13 = .ok (.invokestatic 145, 3) := by decide +kernel
theorem dX7_seat_16 : decode cX7_seat 16 = .ok (.goto 5, 3) := by decide +kernel
theorem dX7_seat_19 : decode cX7_seat 19 = .ok (.ldc 67, 2) := by decide +kernel
theorem dX7_seat_21 : decode cX7_seat 21 = .ok (.ireturn, 1) := by decide +kernel
set_option maxRecDepth 20000 in
theorem ggX7_goesOn_X7_passes : GoodIn wsX7_goesOn wsX7_passes := goodIn_r _ [6, 7, 8, 9, 10, 5, 11, 12, 13, 14, 15, 16, 17, 18, 19, 20, 21, 22, 23, 24, 25, 26, 27, 28, 29, 30, 31, 32, 33, 34, 35, 36, 37, 38, 39, 40, 41, 42, 43, 44, 45, 46, 47, 48, 49, 50, 51] (by decide +kernel) (by decide +kernel)
set_option maxRecDepth 20000 in
theorem gX7_goesOn_X7_passes : GoodIn wsX7_goesOn (wsV RX7 173 RX7 yX7_passes wsX7_passes) := goodIn_app (goodIn_of _ (by decide +kernel)) ggX7_goesOn_X7_passes
theorem dX7_goesOn_0 : decode cX7_goesOn 0 = .ok (.iconst 0, 1) := by decide +kernel
theorem dX7_goesOn_1 : decode cX7_goesOn 1 = .ok (.istore_n 2, 1) := by decide +kernel
theorem dX7_goesOn_2 : decode cX7_goesOn 2 = .ok (.iload_n 2, 1) := by decide +kernel
theorem dX7_goesOn_3 : decode cX7_goesOn 3 = .ok (.iload_n 1, 1) := by decide +kernel
theorem dX7_goesOn_4 : decode cX7_goesOn 4 = .ok (.if_icmp .ge 17, 3) := by decide +kernel
theorem dX7_goesOn_7 : decode cX7_goesOn 7 = .ok (.aload_n 0, 1) := by decide +kernel
theorem dX7_goesOn_8 : decode cX7_goesOn 8 = .ok (.aload_n 0, 1) := by decide +kernel
theorem dX7_goesOn_9 : decode cX7_goesOn 9 = .ok (.getfield 31, 3) := by decide +kernel
theorem dX7_goesOn_12 : decode cX7_goesOn 12 = .ok (.invokevirtual 173, 3) := by decide +kernel
theorem dX7_goesOn_15 : decode cX7_goesOn 15 = .ok (.iinc 2 1, 3) := by decide +kernel
theorem dX7_goesOn_18 : decode cX7_goesOn 18 = .ok (.goto (-16), 3) := by decide +kernel
theorem dX7_goesOn_21 : decode cX7_goesOn 21 = .ok (.return_, 1) := by decide +kernel
set_option maxRecDepth 20000 in
theorem ggX7_ahead_X7_isGuest : GoodIn wsX7_ahead wsX7_isGuest := goodIn_r _ [8, 2, 9, 10, 7, 11, 44, 45, 46, 47, 48, 49, 50, 51, 52, 53, 54, 55, 56, 57, 58, 59, 60, 61, 62, 63, 64, 65, 66, 67] (by decide +kernel) (by decide +kernel)
set_option maxRecDepth 20000 in
theorem gX7_ahead_X7_isGuest : GoodIn wsX7_ahead (wsV RX7 177 RX7 yX7_isGuest wsX7_isGuest) := goodIn_app (goodIn_of _ (by decide +kernel)) ggX7_ahead_X7_isGuest
set_option maxRecDepth 20000 in
theorem ggX7_ahead_X7_in : GoodIn wsX7_ahead wsX7_in := goodIn_r _ [11] (by decide +kernel) (by decide +kernel)
set_option maxRecDepth 20000 in
theorem gX7_ahead_X7_in : GoodIn wsX7_ahead (va_wsS RX7 59 yX7_in wsX7_in) := goodIn_app (goodIn_of _ (by decide +kernel)) ggX7_ahead_X7_in
set_option maxRecDepth 20000 in
theorem ggX7_ahead_X7_copies : GoodIn wsX7_ahead wsX7_copies := goodIn_r _ [14] (by decide +kernel) (by decide +kernel)
set_option maxRecDepth 20000 in
theorem gX7_ahead_X7_copies : GoodIn wsX7_ahead (va_wsS RX7 138 yX7_copies wsX7_copies) := goodIn_app (goodIn_of _ (by decide +kernel)) ggX7_ahead_X7_copies
set_option maxRecDepth 20000 in
theorem ggX7_ahead_X7_goesOn : GoodIn wsX7_ahead wsX7_goesOn := goodIn_r _ [18, 3, 19, 20, 21, 7, 22, 23, 24, 25, 26, 27, 28, 29, 30, 31, 32, 33, 34, 35, 36, 37, 38, 39, 40, 41, 42, 43, 44, 45, 46, 47, 48, 49, 50, 51, 52, 53, 54, 55, 56, 57, 58, 59, 60, 61, 62, 63, 64, 65, 66, 67] (by decide +kernel) (by decide +kernel)
set_option maxRecDepth 20000 in
theorem gX7_ahead_X7_goesOn : GoodIn wsX7_ahead (wsV RX7 191 RX7 yX7_goesOn wsX7_goesOn) := goodIn_app (goodIn_of _ (by decide +kernel)) ggX7_ahead_X7_goesOn
theorem dX7_ahead_0 : decode cX7_ahead 0 = .ok (.aload_n 0, 1) := by decide +kernel
theorem dX7_ahead_1 : decode cX7_ahead 1 = .ok (.iload_n 1, 1) := by decide +kernel
theorem dX7_ahead_2 : decode cX7_ahead 2 = .ok (.invokevirtual 177, 3) := by decide +kernel
theorem dX7_ahead_5 : decode cX7_ahead 5 = .ok (.ifCond .eq 22, 3) := by decide +kernel
theorem dX7_ahead_8 : decode cX7_ahead 8 = .ok (.iload_n 2, 1) := by decide +kernel
theorem dX7_ahead_9 : decode cX7_ahead 9 = .ok (.iconst 0, 1) := by decide +kernel
theorem dX7_ahead_10 : decode cX7_ahead 10 = .ok (.bipush 60, 2) := by decide +kernel
theorem dX7_ahead_12 : decode cX7_ahead 12 = .ok (.invokestatic 59, 3) := by decide +kernel
theorem dX7_ahead_15 : decode cX7_ahead 15 = .ok (.ifCond .eq 12, 3) := by decide +kernel
theorem dX7_ahead_18 : decode cX7_ahead 18 = .ok (.iload_n 3, 1) := by decide +kernel
theorem dX7_ahead_19 : decode cX7_ahead 19 = .ok (.iconst 0, 1) := by decide +kernel
theorem dX7_ahead_20 : decode cX7_ahead 20 = .ok (.iconst 1, 1) := by decide +kernel
theorem dX7_ahead_21 : decode cX7_ahead 21 = .ok (.invokestatic 59, 3) := by decide +kernel
theorem dX7_ahead_24 : decode cX7_ahead 24 = .ok (.ifCond .ne 6, 3) := by decide +kernel
theorem dX7_ahead_27 : decode cX7_ahead 27 = .ok (.ldc 67, 2) := by decide +kernel
theorem dX7_ahead_29 : decode cX7_ahead 29 = .ok (.ireturn, 1) := by decide +kernel
theorem dX7_ahead_30 : decode cX7_ahead 30 = .ok (.aload_n 0, 1) := by decide +kernel
theorem dX7_ahead_31 : decode cX7_ahead 31 = .ok (.getfield 25, 3) := by decide +kernel
theorem dX7_ahead_34 : decode cX7_ahead 34 = .ok (.iconst 0, 1) := by decide +kernel
theorem dX7_ahead_35 : decode cX7_ahead 35 = .ok (.aload_n 0, 1) := by decide +kernel
theorem dX7_ahead_36 : decode cX7_ahead 36 = .ok (.getfield 31, 3) := by decide +kernel
theorem dX7_ahead_39 : decode cX7_ahead 39 = .ok (.iconst 0, 1) := by decide +kernel
theorem dX7_ahead_40 : decode cX7_ahead 40 = .ok (.invokestatic 138, 3) := by decide +kernel
theorem dX7_ahead_43 : decode cX7_ahead 43 = .ok (.aload_n 0, 1) := by decide +kernel
theorem dX7_ahead_44 : decode cX7_ahead 44 = .ok (.iload_n 2, 1) := by decide +kernel
theorem dX7_ahead_45 : decode cX7_ahead 45 = .ok (.invokevirtual 191, 3) := by decide +kernel
theorem dX7_ahead_48 : decode cX7_ahead 48 = .ok (.aload_n 0, 1) := by decide +kernel
theorem dX7_ahead_49 : decode cX7_ahead 49 = .ok (.getfield 31, 3) := by decide +kernel
theorem dX7_ahead_52 : decode cX7_ahead 52 = .ok (.bipush 6, 2) := by decide +kernel
theorem dX7_ahead_54 : decode cX7_ahead 54 = .ok (.bipush 7, 2) := by decide +kernel
theorem dX7_ahead_56 : decode cX7_ahead 56 = .ok (.iload_n 1, 1) := by decide +kernel
theorem dX7_ahead_57 : decode cX7_ahead 57 = .ok (.imul, 1) := by decide +kernel
theorem dX7_ahead_58 : decode cX7_ahead 58 = .ok (.iadd, 1) := by decide +kernel
theorem dX7_ahead_59 : decode cX7_ahead 59 = .ok (.iload_n 3, 1) := by decide +kernel
theorem dX7_ahead_60 : decode cX7_ahead 60 = .ok (.ifCond .ne 8, 3) := by decide +kernel
theorem dX7_ahead_63 : decode cX7_ahead 63 = .ok (.bipush 6, 2) := by decide +kernel
theorem dX7_ahead_65 : decode cX7_ahead 65 = .ok (.goto 4, 3) := by decide +kernel
theorem dX7_ahead_68 : decode cX7_ahead 68 = .ok (.iconst 2, 1) := by decide +kernel
theorem dX7_ahead_69 : decode cX7_ahead 69 = .ok (.iadd, 1) := by decide +kernel
theorem dX7_ahead_70 : decode cX7_ahead 70 = .ok (.iaload, 1) := by decide +kernel
theorem dX7_ahead_71 : decode cX7_ahead 71 = .ok (.ireturn, 1) := by decide +kernel
set_option maxRecDepth 20000 in
theorem ggX7_bottle_X7_isWedding : GoodIn wsX7_bottle wsX7_isWedding := goodIn_r _ [9, 3, 45, 46, 47, 48, 49, 50, 51, 52, 53, 54, 55, 56, 57, 58, 59, 60, 61, 62, 63, 64, 65, 66, 67, 68] (by decide +kernel) (by decide +kernel)
set_option maxRecDepth 20000 in
theorem gX7_bottle_X7_isWedding : GoodIn wsX7_bottle (wsV RX7 166 RX7 yX7_isWedding wsX7_isWedding) := goodIn_app (goodIn_of _ (by decide +kernel)) ggX7_bottle_X7_isWedding
set_option maxRecDepth 20000 in
theorem ggX7_bottle_X7_in : GoodIn wsX7_bottle wsX7_in := goodIn_r _ [12] (by decide +kernel) (by decide +kernel)
set_option maxRecDepth 20000 in
theorem gX7_bottle_X7_in : GoodIn wsX7_bottle (va_wsS RX7 59 yX7_in wsX7_in) := goodIn_app (goodIn_of _ (by decide +kernel)) ggX7_bottle_X7_in
set_option maxRecDepth 20000 in
theorem ggX7_bottle_X7_copies : GoodIn wsX7_bottle wsX7_copies := goodIn_r _ [15] (by decide +kernel) (by decide +kernel)
set_option maxRecDepth 20000 in
theorem gX7_bottle_X7_copies : GoodIn wsX7_bottle (va_wsS RX7 138 yX7_copies wsX7_copies) := goodIn_app (goodIn_of _ (by decide +kernel)) ggX7_bottle_X7_copies
set_option maxRecDepth 20000 in
theorem ggX7_bottle_X7_goesOn : GoodIn wsX7_bottle wsX7_goesOn := goodIn_r _ [19, 4, 20, 21, 22, 8, 23, 24, 25, 26, 27, 28, 29, 30, 31, 32, 33, 34, 35, 36, 37, 38, 39, 40, 41, 42, 43, 44, 45, 46, 47, 48, 49, 50, 51, 52, 53, 54, 55, 56, 57, 58, 59, 60, 61, 62, 63, 64, 65, 66, 67, 68] (by decide +kernel) (by decide +kernel)
set_option maxRecDepth 20000 in
theorem gX7_bottle_X7_goesOn : GoodIn wsX7_bottle (wsV RX7 191 RX7 yX7_goesOn wsX7_goesOn) := goodIn_app (goodIn_of _ (by decide +kernel)) ggX7_bottle_X7_goesOn
theorem dX7_bottle_0 : decode cX7_bottle 0 = .ok (.aload_n 0, 1) := by decide +kernel
theorem dX7_bottle_1 : decode cX7_bottle 1 = .ok (.invokevirtual 166, 3) := by decide +kernel
theorem dX7_bottle_4 : decode cX7_bottle 4 = .ok (.ifCond .ne 6, 3) := by decide +kernel
theorem dX7_bottle_7 : decode cX7_bottle 7 = .ok (.ldc 169, 2) := by decide +kernel
theorem dX7_bottle_9 : decode cX7_bottle 9 = .ok (.ireturn, 1) := by decide +kernel
theorem dX7_bottle_10 : decode cX7_bottle 10 = .ok (.iload_n 1, 1) := by decide +kernel
theorem dX7_bottle_11 : decode cX7_bottle 11 = .ok (.iconst 0, 1) := by decide +kernel
theorem dX7_bottle_12 : decode cX7_bottle 12 = .ok (.bipush 60, 2) := by decide +kernel
theorem dX7_bottle_14 : decode cX7_bottle 14 = .ok (.invokestatic 59, 3) := by decide +kernel
theorem dX7_bottle_17 : decode cX7_bottle 17 = .ok (.ifCond .eq 12, 3) := by decide +kernel
theorem dX7_bottle_20 : decode cX7_bottle 20 = .ok (.iload_n 2, 1) := by decide +kernel
theorem dX7_bottle_21 : decode cX7_bottle 21 = .ok (.iconst 0, 1) := by decide +kernel
theorem dX7_bottle_22 : decode cX7_bottle 22 = .ok (.iconst 1, 1) := by decide +kernel
theorem dX7_bottle_23 : decode cX7_bottle 23 = .ok (.invokestatic 59, 3) := by decide +kernel
theorem dX7_bottle_26 : decode cX7_bottle 26 = .ok (.ifCond .ne 6, 3) := by decide +kernel
theorem dX7_bottle_29 : decode cX7_bottle 29 = .ok (.ldc 67, 2) := by decide +kernel
theorem dX7_bottle_31 : decode cX7_bottle 31 = .ok (.ireturn, 1) := by decide +kernel
theorem dX7_bottle_32 : decode cX7_bottle 32 = .ok (.aload_n 0, 1) := by decide +kernel
theorem dX7_bottle_33 : decode cX7_bottle 33 = .ok (.getfield 25, 3) := by decide +kernel
theorem dX7_bottle_36 : decode cX7_bottle 36 = .ok (.iconst 0, 1) := by decide +kernel
theorem dX7_bottle_37 : decode cX7_bottle 37 = .ok (.aload_n 0, 1) := by decide +kernel
theorem dX7_bottle_38 : decode cX7_bottle 38 = .ok (.getfield 31, 3) := by decide +kernel
theorem dX7_bottle_41 : decode cX7_bottle 41 = .ok (.iconst 0, 1) := by decide +kernel
theorem dX7_bottle_42 : decode cX7_bottle 42 = .ok (.invokestatic 138, 3) := by decide +kernel
theorem dX7_bottle_45 : decode cX7_bottle 45 = .ok (.aload_n 0, 1) := by decide +kernel
theorem dX7_bottle_46 : decode cX7_bottle 46 = .ok (.iload_n 1, 1) := by decide +kernel
theorem dX7_bottle_47 : decode cX7_bottle 47 = .ok (.invokevirtual 191, 3) := by decide +kernel
theorem dX7_bottle_50 : decode cX7_bottle 50 = .ok (.aload_n 0, 1) := by decide +kernel
theorem dX7_bottle_51 : decode cX7_bottle 51 = .ok (.getfield 31, 3) := by decide +kernel
theorem dX7_bottle_54 : decode cX7_bottle 54 = .ok (.iload_n 2, 1) := by decide +kernel
theorem dX7_bottle_55 : decode cX7_bottle 55 = .ok (.ifCond .ne 7, 3) := by decide +kernel
theorem dX7_bottle_58 : decode cX7_bottle 58 = .ok (.iconst 4, 1) := by decide +kernel
theorem dX7_bottle_59 : decode cX7_bottle 59 = .ok (.goto 4, 3) := by decide +kernel
theorem dX7_bottle_62 : decode cX7_bottle 62 = .ok (.iconst 5, 1) := by decide +kernel
theorem dX7_bottle_63 : decode cX7_bottle 63 = .ok (.iaload, 1) := by decide +kernel
theorem dX7_bottle_64 : decode cX7_bottle 64 = .ok (.ireturn, 1) := by decide +kernel
set_option maxRecDepth 20000 in
theorem ggX7_filled_X7_isWedding : GoodIn wsX7_filled wsX7_isWedding := goodIn_r _ [9, 2, 37, 38, 39, 40, 41, 42, 43, 44, 45, 46, 47, 48, 49, 50, 51, 52, 53, 54, 55, 56, 57, 58, 59, 60] (by decide +kernel) (by decide +kernel)
set_option maxRecDepth 20000 in
theorem gX7_filled_X7_isWedding : GoodIn wsX7_filled (wsV RX7 166 RX7 yX7_isWedding wsX7_isWedding) := goodIn_app (goodIn_of _ (by decide +kernel)) ggX7_filled_X7_isWedding
set_option maxRecDepth 20000 in
theorem ggX7_filled_X7_copies : GoodIn wsX7_filled wsX7_copies := goodIn_r _ [12] (by decide +kernel) (by decide +kernel)
set_option maxRecDepth 20000 in
theorem gX7_filled_X7_copies : GoodIn wsX7_filled (va_wsS RX7 138 yX7_copies wsX7_copies) := goodIn_app (goodIn_of _ (by decide +kernel)) ggX7_filled_X7_copies
set_option maxRecDepth 20000 in
theorem ggX7_filled_X7_passes : GoodIn wsX7_filled wsX7_passes := goodIn_r _ [16, 17, 18, 19, 20, 8, 21, 22, 23, 24, 4, 25, 26, 27, 28, 29, 30, 31, 32, 33, 34, 35, 36, 37, 38, 39, 40, 41, 42, 43, 44, 45, 46, 47, 48, 49, 50, 51, 52, 53, 54, 55, 56, 57, 58, 59, 60] (by decide +kernel) (by decide +kernel)
set_option maxRecDepth 20000 in
theorem gX7_filled_X7_passes : GoodIn wsX7_filled (wsV RX7 173 RX7 yX7_passes wsX7_passes) := goodIn_app (goodIn_of _ (by decide +kernel)) ggX7_filled_X7_passes
theorem dX7_filled_0 : decode cX7_filled 0 = .ok (.aload_n 0, 1) := by decide +kernel
theorem dX7_filled_1 : decode cX7_filled 1 = .ok (.invokevirtual 166, 3) := by decide +kernel
theorem dX7_filled_4 : decode cX7_filled 4 = .ok (.ifCond .ne 6, 3) := by decide +kernel
theorem dX7_filled_7 : decode cX7_filled 7 = .ok (.ldc 169, 2) := by decide +kernel
theorem dX7_filled_9 : decode cX7_filled 9 = .ok (.ireturn, 1) := by decide +kernel
theorem dX7_filled_10 : decode cX7_filled 10 = .ok (.aload_n 0, 1) := by decide +kernel
theorem dX7_filled_11 : decode cX7_filled 11 = .ok (.getfield 25, 3) := by decide +kernel
theorem dX7_filled_14 : decode cX7_filled 14 = .ok (.iconst 0, 1) := by decide +kernel
theorem dX7_filled_15 : decode cX7_filled 15 = .ok (.aload_n 0, 1) := by decide +kernel
theorem dX7_filled_16 : decode cX7_filled 16 = .ok (.getfield 31, 3) := by decide +kernel
theorem dX7_filled_19 : decode cX7_filled 19 = .ok (.iconst 0, 1) := by decide +kernel
theorem dX7_filled_20 : decode cX7_filled 20 = .ok (.invokestatic 138, 3) := by decide +kernel
theorem dX7_filled_23 : decode cX7_filled 23 = .ok (.iconst 0, 1) := by decide +kernel
theorem dX7_filled_24 : decode cX7_filled 24 = .ok (.istore_n 1, 1) := by decide +kernel
theorem dX7_filled_25 : decode cX7_filled 25 = .ok (.iload_n 1, 1) := by decide +kernel
theorem dX7_filled_26 : decode cX7_filled 26 = .ok (.bipush 61, 2) := by decide +kernel
theorem dX7_filled_28 : decode cX7_filled 28 = .ok (.if_icmp .ge 34, 3) := by decide +kernel
theorem dX7_filled_31 : decode cX7_filled 31 = .ok (.aload_n 0, 1) := by decide +kernel
theorem dX7_filled_32 : decode cX7_filled 32 = .ok (.getfield 31, 3) := by decide +kernel
theorem dX7_filled_35 : decode cX7_filled 35 = .ok (.iconst 4, 1) := by decide +kernel
theorem dX7_filled_36 : decode cX7_filled 36 = .ok (.iaload, 1) := by decide +kernel
theorem dX7_filled_37 : decode cX7_filled 37 = .ok (.aload_n 0, 1) := by decide +kernel
theorem dX7_filled_38 : decode cX7_filled 38 = .ok (.getfield 31, 3) := by decide +kernel
theorem dX7_filled_41 : decode cX7_filled 41 = .ok (.iconst 0, 1) := by decide +kernel
theorem dX7_filled_42 : decode cX7_filled 42 = .ok (.iaload, 1) := by decide +kernel
theorem dX7_filled_43 : decode cX7_filled 43 = .ok (.if_icmp .lt 5, 3) := by decide +kernel
theorem dX7_filled_46 : decode cX7_filled 46 = .ok (.iload_n 1, 1) := by decide +kernel
theorem dX7_filled_47 : decode cX7_filled 47 = .ok (.ireturn, 1) := by decide +kernel
theorem dX7_filled_48 : decode cX7_filled 48 = .ok (.aload_n 0, 1) := by decide +kernel
theorem dX7_filled_49 : decode cX7_filled 49 = .ok (.aload_n 0, 1) := by decide +kernel
theorem dX7_filled_50 : decode cX7_filled 50 = .ok (.getfield 31, 3) := by decide +kernel
theorem dX7_filled_53 : decode cX7_filled 53 = .ok (.invokevirtual 173, 3) := by decide +kernel
theorem dX7_filled_56 : decode cX7_filled 56 = .ok (.iinc 1 1, 3) := by decide +kernel
theorem dX7_filled_59 : decode cX7_filled 59 = .ok (.goto (-34), 3) := by decide +kernel
theorem dX7_filled_62 : decode cX7_filled 62 = .ok (.ldc 53, 2) := by decide +kernel
theorem dX7_filled_64 : decode cX7_filled 64 = .ok (.ireturn, 1) := by decide +kernel
set_option maxRecDepth 20000 in
theorem ggX7_dry_X7_isWedding : GoodIn wsX7_dry wsX7_isWedding := goodIn_r _ [10, 3, 41, 42, 43, 44, 45, 46, 47, 48, 49, 50, 51, 52, 53, 54, 55, 56, 57, 58, 59, 60, 61, 62, 63, 64] (by decide +kernel) (by decide +kernel)
set_option maxRecDepth 20000 in
theorem gX7_dry_X7_isWedding : GoodIn wsX7_dry (wsV RX7 166 RX7 yX7_isWedding wsX7_isWedding) := goodIn_app (goodIn_of _ (by decide +kernel)) ggX7_dry_X7_isWedding
set_option maxRecDepth 20000 in
theorem ggX7_dry_X7_in : GoodIn wsX7_dry wsX7_in := goodIn_r _ [13] (by decide +kernel) (by decide +kernel)
set_option maxRecDepth 20000 in
theorem gX7_dry_X7_in : GoodIn wsX7_dry (va_wsS RX7 59 yX7_in wsX7_in) := goodIn_app (goodIn_of _ (by decide +kernel)) ggX7_dry_X7_in
set_option maxRecDepth 20000 in
theorem ggX7_dry_X7_copies : GoodIn wsX7_dry wsX7_copies := goodIn_r _ [16] (by decide +kernel) (by decide +kernel)
set_option maxRecDepth 20000 in
theorem gX7_dry_X7_copies : GoodIn wsX7_dry (va_wsS RX7 138 yX7_copies wsX7_copies) := goodIn_app (goodIn_of _ (by decide +kernel)) ggX7_dry_X7_copies
set_option maxRecDepth 20000 in
theorem ggX7_dry_X7_passes : GoodIn wsX7_dry wsX7_passes := goodIn_r _ [20, 21, 22, 23, 24, 9, 25, 26, 27, 28, 5, 29, 30, 31, 32, 33, 34, 35, 36, 37, 38, 39, 40, 41, 42, 43, 44, 45, 46, 47, 48, 49, 50, 51, 52, 53, 54, 55, 56, 57, 58, 59, 60, 61, 62, 63, 64] (by decide +kernel) (by decide +kernel)
set_option maxRecDepth 20000 in
theorem gX7_dry_X7_passes : GoodIn wsX7_dry (wsV RX7 173 RX7 yX7_passes wsX7_passes) := goodIn_app (goodIn_of _ (by decide +kernel)) ggX7_dry_X7_passes
theorem dX7_dry_0 : decode cX7_dry 0 = .ok (.aload_n 0, 1) := by decide +kernel
theorem dX7_dry_1 : decode cX7_dry 1 = .ok (.invokevirtual 166, 3) := by decide +kernel
theorem dX7_dry_4 : decode cX7_dry 4 = .ok (.ifCond .ne 6, 3) := by decide +kernel
theorem dX7_dry_7 : decode cX7_dry 7 = .ok (.ldc 169, 2) := by decide +kernel
theorem dX7_dry_9 : decode cX7_dry 9 = .ok (.ireturn, 1) := by decide +kernel
theorem dX7_dry_10 : decode cX7_dry 10 = .ok (.iload_n 1, 1) := by decide +kernel
theorem dX7_dry_11 : decode cX7_dry 11 = .ok (.iconst 0, 1) := by decide +kernel
theorem dX7_dry_12 : decode cX7_dry 12 = .ok (.iconst 1, 1) := by decide +kernel
theorem dX7_dry_13 : decode cX7_dry 13 = .ok (.invokestatic 59, 3) := by decide +kernel
theorem dX7_dry_16 : decode cX7_dry 16 = .ok (.ifCond .ne 6, 3) := by decide +kernel
theorem dX7_dry_19 : decode cX7_dry 19 = .ok (.ldc 67, 2) := by decide +kernel
theorem dX7_dry_21 : decode cX7_dry 21 = .ok (.ireturn, 1) := by decide +kernel
theorem dX7_dry_22 : decode cX7_dry 22 = .ok (.aload_n 0, 1) := by decide +kernel
theorem dX7_dry_23 : decode cX7_dry 23 = .ok (.getfield 25, 3) := by decide +kernel
theorem dX7_dry_26 : decode cX7_dry 26 = .ok (.iconst 0, 1) := by decide +kernel
theorem dX7_dry_27 : decode cX7_dry 27 = .ok (.aload_n 0, 1) := by decide +kernel
theorem dX7_dry_28 : decode cX7_dry 28 = .ok (.getfield 31, 3) := by decide +kernel
theorem dX7_dry_31 : decode cX7_dry 31 = .ok (.iconst 0, 1) := by decide +kernel
theorem dX7_dry_32 : decode cX7_dry 32 = .ok (.invokestatic 138, 3) := by decide +kernel
theorem dX7_dry_35 : decode cX7_dry 35 = .ok (.iconst 0, 1) := by decide +kernel
theorem dX7_dry_36 : decode cX7_dry 36 = .ok (.istore_n 2, 1) := by decide +kernel
theorem dX7_dry_37 : decode cX7_dry 37 = .ok (.iload_n 2, 1) := by decide +kernel
theorem dX7_dry_38 : decode cX7_dry 38 = .ok (.bipush 61, 2) := by decide +kernel
theorem dX7_dry_40 : decode cX7_dry 40 = .ok (.if_icmp .ge 80, 3) := by decide +kernel
theorem dX7_dry_43 : decode cX7_dry 43 = .ok (.iconst 0, 1) := by decide +kernel
theorem dX7_dry_44 : decode cX7_dry 44 = .ok (.istore_n 3, 1) := by decide +kernel
theorem dX7_dry_45 : decode cX7_dry 45 = .ok (.iload_n 3, 1) := by decide +kernel
theorem dX7_dry_46 : decode cX7_dry 46 = .ok (.aload_n 0, 1) := by decide +kernel
theorem dX7_dry_47 : decode cX7_dry 47 = .ok (.getfield 25, 3) := by decide +kernel
theorem dX7_dry_50 : decode cX7_dry 50 = .ok (.iconst 2, 1) := by decide +kernel
theorem dX7_dry_51 : decode cX7_dry 51 = .ok (.iaload, 1) := by decide +kernel
theorem dX7_dry_52 : decode cX7_dry 52 = .ok (.if_icmp .ge 54, 3) := by decide +kernel
theorem dX7_dry_55 : decode cX7_dry 55 = .ok (.aload_n 0, 1) := by decide +kernel
theorem dX7_dry_56 : decode cX7_dry 56 = .ok (.getfield 31, 3) := by decide +kernel
theorem dX7_dry_59 : decode cX7_dry 59 = .ok (.bipush 6, 2) := by decide +kernel
theorem dX7_dry_61 : decode cX7_dry 61 = .ok (.bipush 7, 2) := by decide +kernel
theorem dX7_dry_63 : decode cX7_dry 63 = .ok (.iload_n 3, 1) := by decide +kernel
theorem dX7_dry_64 : decode cX7_dry 64 = .ok (.imul, 1) := by decide +kernel
theorem dX7_dry_65 : decode cX7_dry 65 = .ok (.iadd, 1) := by decide +kernel
theorem dX7_dry_66 : decode cX7_dry 66 = .ok (.iconst 5, 1) := by decide +kernel
theorem dX7_dry_67 : decode cX7_dry 67 = .ok (.iadd, 1) := by decide +kernel
theorem dX7_dry_68 : decode cX7_dry 68 = .ok (.iaload, 1) := by decide +kernel
theorem dX7_dry_69 : decode cX7_dry 69 = .ok (.iconst 1, 1) := by decide +kernel
theorem dX7_dry_70 : decode cX7_dry 70 = .ok (.if_icmp .ne 30, 3) := by decide +kernel
theorem dX7_dry_73 : decode cX7_dry 73 = .ok (.aload_n 0, 1) := by decide +kernel
theorem dX7_dry_74 : decode cX7_dry 74 = .ok (.getfield 31, 3) := by decide +kernel
theorem dX7_dry_77 : decode cX7_dry 77 = .ok (.bipush 6, 2) := by decide +kernel
theorem dX7_dry_79 : decode cX7_dry 79 = .ok (.bipush 7, 2) := by decide +kernel
theorem dX7_dry_81 : decode cX7_dry 81 = .ok (.iload_n 3, 1) := by decide +kernel
theorem dX7_dry_82 : decode cX7_dry 82 = .ok (.imul, 1) := by decide +kernel
theorem dX7_dry_83 : decode cX7_dry 83 = .ok (.iadd, 1) := by decide +kernel
theorem dX7_dry_84 : decode cX7_dry 84 = .ok (.iconst 2, 1) := by decide +kernel
theorem dX7_dry_85 : decode cX7_dry 85 = .ok (.iadd, 1) := by decide +kernel
theorem dX7_dry_86 : decode cX7_dry 86 = .ok (.iaload, 1) := by decide +kernel
theorem dX7_dry_87 : decode cX7_dry 87 = .ok (.ifCond .ne 13, 3) := by decide +kernel
theorem dX7_dry_90 : decode cX7_dry 90 = .ok (.iload_n 1, 1) := by decide +kernel
theorem dX7_dry_91 : decode cX7_dry 91 = .ok (.ifCond .ne 7, 3) := by decide +kernel
theorem dX7_dry_94 : decode cX7_dry 94 = .ok (.iload_n 3, 1) := by decide +kernel
theorem dX7_dry_95 : decode cX7_dry 95 = .ok (.goto 4, 3) := by decide +kernel
theorem dX7_dry_98 : decode cX7_dry 98 = .ok (.iload_n 2, 1) := by decide +kernel
theorem dX7_dry_99 : decode cX7_dry 99 = .ok (.ireturn, 1) := by decide +kernel
theorem dX7_dry_100 : decode cX7_dry 100 = .ok (.iinc 3 1, 3) := by decide +kernel
theorem dX7_dry_103 : decode cX7_dry 103 = .ok (.goto (-58), 3) := by decide +kernel
theorem dX7_dry_106 : decode cX7_dry 106 = .ok (.aload_n 0, 1) := by decide +kernel
theorem dX7_dry_107 : decode cX7_dry 107 = .ok (.aload_n 0, 1) := by decide +kernel
theorem dX7_dry_108 : decode cX7_dry 108 = .ok (.getfield 31, 3) := by decide +kernel
theorem dX7_dry_111 : decode cX7_dry 111 = .ok (.invokevirtual 173, 3) := by decide +kernel
theorem dX7_dry_114 : decode cX7_dry 114 = .ok (.iinc 2 1, 3) := by decide +kernel
theorem dX7_dry_117 : decode cX7_dry 117 = .ok (.goto (-80), 3) := by decide +kernel
theorem dX7_dry_120 : decode cX7_dry 120 = .ok (.ldc 53, 2) := by decide +kernel
theorem dX7_dry_122 : decode cX7_dry 122 = .ok (.ireturn, 1) := by decide +kernel
set_option maxRecDepth 20000 in
theorem ggX7_triesBy_X7_copies : GoodIn wsX7_triesBy wsX7_copies := goodIn_r _ [6] (by decide +kernel) (by decide +kernel)
set_option maxRecDepth 20000 in
theorem gX7_triesBy_X7_copies : GoodIn wsX7_triesBy (va_wsS RX7 138 yX7_copies wsX7_copies) := goodIn_app (goodIn_of _ (by decide +kernel)) ggX7_triesBy_X7_copies
set_option maxRecDepth 20000 in
theorem ggX7_triesBy_X7_hires : GoodIn wsX7_triesBy wsX7_hires := goodIn_r _ [9] (by decide +kernel) (by decide +kernel)
set_option maxRecDepth 20000 in
theorem gX7_triesBy_X7_hires : GoodIn wsX7_triesBy (va_wsS RX7 180 yX7_hires wsX7_hires) := goodIn_app (goodIn_of _ (by decide +kernel)) ggX7_triesBy_X7_hires
theorem dX7_triesBy_0 : decode cX7_triesBy 0 = .ok (.aload_n 0, 1) := by decide +kernel
theorem dX7_triesBy_1 : decode cX7_triesBy 1 = .ok (.getfield 25, 3) := by decide +kernel
theorem dX7_triesBy_4 : decode cX7_triesBy 4 = .ok (.iconst 0, 1) := by decide +kernel
theorem dX7_triesBy_5 : decode cX7_triesBy 5 = .ok (.aload_n 0, 1) := by decide +kernel
theorem dX7_triesBy_6 : decode cX7_triesBy 6 = .ok (.getfield 31, 3) := by decide +kernel
theorem dX7_triesBy_9 : decode cX7_triesBy 9 = .ok (.iconst 0, 1) := by decide +kernel
theorem dX7_triesBy_10 : decode cX7_triesBy 10 = .ok (.invokestatic 138, 3) := by decide +kernel
theorem dX7_triesBy_13 : decode cX7_triesBy 13 = .ok (.iconst 0, 1) := by decide +kernel
theorem dX7_triesBy_14 : decode cX7_triesBy 14 = .ok (.istore_n 2, 1) := by decide +kernel
theorem dX7_triesBy_15 : decode cX7_triesBy 15 = .ok (.iload_n 2, 1) := by decide +kernel
theorem dX7_triesBy_16 : decode cX7_triesBy 16 = .ok (.aload_n 0, 1) := by decide +kernel
theorem dX7_triesBy_17 : decode cX7_triesBy 17 = .ok (.getfield 25, 3) := by decide +kernel
theorem dX7_triesBy_20 : decode cX7_triesBy 20 = .ok (.iconst 2, 1) := by decide +kernel
theorem dX7_triesBy_21 : decode cX7_triesBy 21 = .ok (.iaload, 1) := by decide +kernel
theorem dX7_triesBy_22 : decode cX7_triesBy 22 = .ok (.if_icmp .ge 22, 3) := by decide +kernel
theorem dX7_triesBy_25 : decode cX7_triesBy 25 = .ok (.aload_n 0, 1) := by decide +kernel
theorem dX7_triesBy_26 : decode cX7_triesBy 26 = .ok (.getfield 31, 3) := by decide +kernel
theorem dX7_triesBy_29 : decode cX7_triesBy 29 = .ok (.iload_n 2, 1) := by decide +kernel
theorem dX7_triesBy_30 : decode cX7_triesBy 30 = .ok (.iload_n 1, 1) := by decide +kernel
theorem dX7_triesBy_31 : decode cX7_triesBy 31 = .ok (.iload_n 2, 1) := by decide +kernel
theorem dX7_triesBy_32 : decode cX7_triesBy 32 = .ok (.ishr, 1) := by decide +kernel
theorem dX7_triesBy_33 : decode cX7_triesBy 33 = .ok (.iconst 1, 1) := by decide +kernel
theorem dX7_triesBy_34 : decode cX7_triesBy 34 = .ok (.iand, 1) := by decide +kernel
theorem dX7_triesBy_35 : decode cX7_triesBy 35 = .ok (.invokestatic 180, 3) := by decide +kernel
theorem dX7_triesBy_38 : decode cX7_triesBy 38 = .ok (.iinc 2 1, 3) := by decide +kernel
theorem dX7_triesBy_41 : decode cX7_triesBy 41 = .ok (.goto (-26), 3) := by decide +kernel
theorem dX7_triesBy_44 : decode cX7_triesBy 44 = .ok (.return_, 1) := by decide +kernel
set_option maxRecDepth 20000 in
theorem ggX7_hiring_X7_isWedding : GoodIn wsX7_hiring wsX7_isWedding := goodIn_r _ [10, 4, 55, 56, 57, 58, 59, 60, 61, 62, 63, 64, 65, 66, 67, 68, 69, 70, 71, 72, 73, 74, 75, 76, 77, 78] (by decide +kernel) (by decide +kernel)
set_option maxRecDepth 20000 in
theorem gX7_hiring_X7_isWedding : GoodIn wsX7_hiring (wsV RX7 166 RX7 yX7_isWedding wsX7_isWedding) := goodIn_app (goodIn_of _ (by decide +kernel)) ggX7_hiring_X7_isWedding
set_option maxRecDepth 20000 in
theorem ggX7_hiring_X7_in : GoodIn wsX7_hiring wsX7_in := goodIn_r _ [13] (by decide +kernel) (by decide +kernel)
set_option maxRecDepth 20000 in
theorem gX7_hiring_X7_in : GoodIn wsX7_hiring (va_wsS RX7 59 yX7_in wsX7_in) := goodIn_app (goodIn_of _ (by decide +kernel)) ggX7_hiring_X7_in
set_option maxRecDepth 20000 in
theorem ggX7_hiring_X7_triesBy : GoodIn wsX7_hiring wsX7_triesBy := goodIn_r _ [17, 4, 5, 18, 19, 9, 20, 21, 22, 23, 55, 56, 57, 58, 59, 60, 61, 62, 63, 64, 65, 66, 67, 68, 69, 70, 71, 72, 73, 74, 75, 76, 77, 78] (by decide +kernel) (by decide +kernel)
set_option maxRecDepth 20000 in
theorem gX7_hiring_X7_triesBy : GoodIn wsX7_hiring (wsV RX7 195 RX7 yX7_triesBy wsX7_triesBy) := goodIn_app (goodIn_of _ (by decide +kernel)) ggX7_hiring_X7_triesBy
set_option maxRecDepth 20000 in
theorem ggX7_hiring_X7_goesOn : GoodIn wsX7_hiring wsX7_goesOn := goodIn_r _ [27, 5, 28, 29, 30, 9, 31, 32, 33, 34, 35, 36, 37, 38, 39, 3, 40, 41, 42, 43, 44, 45, 46, 47, 48, 49, 50, 51, 55, 56, 57, 58, 59, 60, 61, 62, 63, 64, 65, 66, 67, 68, 69, 70, 71, 72, 73, 74, 75, 76, 77, 78] (by decide +kernel) (by decide +kernel)
set_option maxRecDepth 20000 in
theorem gX7_hiring_X7_goesOn : GoodIn wsX7_hiring (wsV RX7 191 RX7 yX7_goesOn wsX7_goesOn) := goodIn_app (goodIn_of _ (by decide +kernel)) ggX7_hiring_X7_goesOn
set_option maxRecDepth 20000 in
theorem ggX7_hiring_X7_ones : GoodIn wsX7_hiring wsX7_ones := goodIn_r _ [54] (by decide +kernel) (by decide +kernel)
set_option maxRecDepth 20000 in
theorem gX7_hiring_X7_ones : GoodIn wsX7_hiring (va_wsS RX7 198 yX7_ones wsX7_ones) := goodIn_app (goodIn_of _ (by decide +kernel)) ggX7_hiring_X7_ones
theorem dX7_hiring_0 : decode cX7_hiring 0 = .ok (.aload_n 0, 1) := by decide +kernel
theorem dX7_hiring_1 : decode cX7_hiring 1 = .ok (.invokevirtual 166, 3) := by decide +kernel
theorem dX7_hiring_4 : decode cX7_hiring 4 = .ok (.ifCond .ne 6, 3) := by decide +kernel
theorem dX7_hiring_7 : decode cX7_hiring 7 = .ok (.ldc 169, 2) := by decide +kernel
theorem dX7_hiring_9 : decode cX7_hiring 9 = .ok (.ireturn, 1) := by decide +kernel
theorem dX7_hiring_10 : decode cX7_hiring 10 = .ok (.iload_n 1, 1) := by decide +kernel
theorem dX7_hiring_11 : decode cX7_hiring 11 = .ok (.iconst 1, 1) := by decide +kernel
theorem dX7_hiring_12 : decode cX7_hiring 12 = .ok (.bipush 30, 2) := by decide +kernel
theorem dX7_hiring_14 : decode cX7_hiring 14 = .ok (.invokestatic 59, 3) := by decide +kernel
theorem dX7_hiring_17 : decode cX7_hiring 17 = .ok (.ifCond .eq 12, 3) := by decide +kernel
theorem dX7_hiring_20 : decode cX7_hiring 20 = .ok (.iload_n 2, 1) := by decide +kernel
theorem dX7_hiring_21 : decode cX7_hiring 21 = .ok (.iconst 0, 1) := by decide +kernel
theorem dX7_hiring_22 : decode cX7_hiring 22 = .ok (.iconst 1, 1) := by decide +kernel
theorem dX7_hiring_23 : decode cX7_hiring 23 = .ok (.invokestatic 59, 3) := by decide +kernel
theorem dX7_hiring_26 : decode cX7_hiring 26 = .ok (.ifCond .ne 6, 3) := by decide +kernel
theorem dX7_hiring_29 : decode cX7_hiring 29 = .ok (.ldc 67, 2) := by decide +kernel
theorem dX7_hiring_31 : decode cX7_hiring 31 = .ok (.ireturn, 1) := by decide +kernel
theorem dX7_hiring_32 : decode cX7_hiring 32 = .ok (.ldc 53, 2) := by decide +kernel
theorem dX7_hiring_34 : decode cX7_hiring 34 = .ok (.istore_n 3, 1) := by decide +kernel
theorem dX7_hiring_35 : decode cX7_hiring 35 = .ok (.iconst 0, 1) := by decide +kernel
theorem dX7_hiring_36 : decode cX7_hiring 36 = .ok (.istore 4, 2) := by decide +kernel
theorem dX7_hiring_38 : decode cX7_hiring 38 = .ok (.iconst 0, 1) := by decide +kernel
theorem dX7_hiring_39 : decode cX7_hiring 39 = .ok (.istore 5, 2) := by decide +kernel
theorem dX7_hiring_41 : decode cX7_hiring 41 = .ok (.iload 5, 2) := by decide +kernel
theorem dX7_hiring_43 : decode cX7_hiring 43 = .ok (.iconst 1, 1) := by decide +kernel
theorem dX7_hiring_44 : decode cX7_hiring 44 = .ok (.aload_n 0, 1) := by decide +kernel
theorem dX7_hiring_45 : decode cX7_hiring 45 = .ok (.getfield 25, 3) := by decide +kernel
theorem dX7_hiring_48 : decode cX7_hiring 48 = .ok (.iconst 2, 1) := by decide +kernel
theorem dX7_hiring_49 : decode cX7_hiring 49 = .ok (.iaload, 1) := by decide +kernel
theorem dX7_hiring_50 : decode cX7_hiring 50 = .ok (.ishl, 1) := by decide +kernel
theorem dX7_hiring_51 : decode cX7_hiring 51 = .ok (.if_icmp .ge 98, 3) := by decide +kernel
theorem dX7_hiring_54 : decode cX7_hiring 54 = .ok (.aload_n 0, 1) := by decide +kernel
theorem dX7_hiring_55 : decode cX7_hiring 55 = .ok (.iload 5, 2) := by decide +kernel
theorem dX7_hiring_57 : decode cX7_hiring 57 = .ok (.invokevirtual 195, 3) := by decide +kernel
theorem dX7_hiring_60 : decode cX7_hiring 60 = .ok (.aload_n 0, 1) := by decide +kernel
theorem dX7_hiring_61 : decode cX7_hiring 61 = .ok (.iload_n 1, 1) := by decide +kernel
theorem dX7_hiring_62 : decode cX7_hiring 62 = .ok (.invokevirtual 191, 3) := by decide +kernel
theorem dX7_hiring_65 : decode cX7_hiring 65 = .ok (.iload_n 3, 1) := by decide +kernel
theorem dX7_hiring_66 : decode cX7_hiring 66 = .ok (.ldc 53, 2) := by decide +kernel
theorem dX7_hiring_68 : decode cX7_hiring 68 = .ok (.if_icmp .eq 37, 3) := by decide +kernel
theorem dX7_hiring_71 : decode cX7_hiring 71 = .ok (.aload_n 0, 1) := by decide +kernel
theorem dX7_hiring_72 : decode cX7_hiring 72 = .ok (.getfield 31, 3) := by decide +kernel
theorem dX7_hiring_75 : decode cX7_hiring 75 = .ok (.iconst 5, 1) := by decide +kernel
theorem dX7_hiring_76 : decode cX7_hiring 76 = .ok (.iaload, 1) := by decide +kernel
theorem dX7_hiring_77 : decode cX7_hiring 77 = .ok (.iload 4, 2) := by decide +kernel
theorem dX7_hiring_79 : decode cX7_hiring 79 = .ok (.if_icmp .lt 26, 3) := by decide +kernel
theorem dX7_hiring_82 : decode cX7_hiring 82 = .ok (.aload_n 0, 1) := by decide +kernel
theorem dX7_hiring_83 : decode cX7_hiring 83 = .ok (.getfield 31, 3) := by decide +kernel
theorem dX7_hiring_86 : decode cX7_hiring 86 = .ok (.iconst 5, 1) := by decide +kernel
theorem dX7_hiring_87 : decode cX7_hiring 87 = .ok (.iaload, 1) := by decide +kernel
theorem dX7_hiring_88 : decode cX7_hiring 88 = .ok (.iload 4, 2) := by decide +kernel
theorem dX7_hiring_90 : decode cX7_hiring 90 = .ok (.if_icmp .ne 19, 3) := by decide +kernel
theorem dX7_hiring_93 : decode cX7_hiring 93 = .ok (.iload 5, 2) := by decide +kernel
theorem dX7_hiring_95 : decode cX7_hiring 95 = .ok (.invokestatic 198, 3) := by decide +kernel
theorem dX7_hiring_98 : decode cX7_hiring 98 = .ok (.iload_n 3, 1) := by decide +kernel
theorem dX7_hiring_99 : decode cX7_hiring 99 = .ok (.invokestatic 198, 3) := by decide +kernel
theorem dX7_hiring_102 : decode cX7_hiring 102 = .ok (.if_icmp .ge 7, 3) := by decide +kernel
theorem dX7_hiring_105 : decode cX7_hiring 105 = .ok (.iconst 1, 1) := by decide +kernel
theorem dX7_hiring_106 : decode cX7_hiring 106 = .ok (.goto 4, 3) := by decide +kernel
theorem dX7_hiring_109 : decode cX7_hiring 109 = .ok (.iconst 0, 1) := by decide +kernel
theorem dX7_hiring_110 : decode cX7_hiring 110 = .ok (.istore 6, 2) := by decide +kernel
theorem dX7_hiring_112 : decode cX7_hiring 112 = .ok (.aload_n 0, 1) := by decide +kernel
theorem dX7_hiring_113 : decode cX7_hiring 113 = .ok (.getfield 31, 3) := by decide +kernel
theorem dX7_hiring_116 : decode cX7_hiring 116 = .ok (.iconst 4, 1) := by decide +kernel
theorem dX7_hiring_117 : decode cX7_hiring 117 = .ok (.iaload, 1) := by decide +kernel
theorem dX7_hiring_118 : decode cX7_hiring 118 = .ok (.aload_n 0, 1) := by decide +kernel
theorem dX7_hiring_119 : decode cX7_hiring 119 = .ok (.getfield 31, 3) := by decide +kernel
theorem dX7_hiring_122 : decode cX7_hiring 122 = .ok (.iconst 0, 1) := by decide +kernel
theorem dX7_hiring_123 : decode cX7_hiring 123 = .ok (.iaload, 1) := by decide +kernel
theorem dX7_hiring_124 : decode cX7_hiring 124 = .ok (.if_icmp .lt 19, 3) := by decide +kernel
theorem dX7_hiring_127 : decode cX7_hiring 127 = .ok (.iload 6, 2) := by decide +kernel
theorem dX7_hiring_129 : decode cX7_hiring 129 = .ok (.ifCond .eq 14, 3) := by decide +kernel
theorem dX7_hiring_132 : decode cX7_hiring 132 = .ok (.iload 5, 2) := by decide +kernel
theorem dX7_hiring_134 : decode cX7_hiring 134 = .ok (.istore_n 3, 1) := by decide +kernel
theorem dX7_hiring_135 : decode cX7_hiring 135 = .ok (.aload_n 0, 1) := by decide +kernel
theorem dX7_hiring_136 : decode cX7_hiring 136 = .ok (.getfield 31, 3) := by decide +kernel
theorem dX7_hiring_139 : decode cX7_hiring 139 = .ok (.iconst 5, 1) := by decide +kernel
theorem dX7_hiring_140 : decode cX7_hiring 140 = .ok (.iaload, 1) := by decide +kernel
theorem dX7_hiring_141 : decode cX7_hiring 141 = .ok (.istore 4, 2) := by decide +kernel
theorem dX7_hiring_143 : decode cX7_hiring 143 = .ok (.iinc 5 1, 3) := by decide +kernel
theorem dX7_hiring_146 : decode cX7_hiring 146 = .ok (.goto (-105), 3) := by decide +kernel
theorem dX7_hiring_149 : decode cX7_hiring 149 = .ok (.iload_n 3, 1) := by decide +kernel
theorem dX7_hiring_150 : decode cX7_hiring 150 = .ok (.ldc 53, 2) := by decide +kernel
theorem dX7_hiring_152 : decode cX7_hiring 152 = .ok (.if_icmp .eq 7, 3) := by decide +kernel
theorem dX7_hiring_155 : decode cX7_hiring 155 = .ok (.iload_n 2, 1) := by decide +kernel
theorem dX7_hiring_156 : decode cX7_hiring 156 = .ok (.ifCond .ne 7, 3) := by decide +kernel
theorem dX7_hiring_159 : decode cX7_hiring 159 = .ok (.iload_n 3, 1) := by decide +kernel
theorem dX7_hiring_160 : decode cX7_hiring 160 = .ok (.goto 5, 3) := by decide +kernel
theorem dX7_hiring_163 : decode cX7_hiring 163 = .ok (.iload 4, 2) := by decide +kernel
theorem dX7_hiring_165 : decode cX7_hiring 165 = .ok (.ireturn, 1) := by decide +kernel
set_option maxRecDepth 20000 in
theorem ggX7_orders_X7_trades : GoodIn wsX7_orders wsX7_trades := goodIn_r _ [7, 2, 8, 9, 10, 11, 12, 13, 14, 15, 16, 17, 18, 19, 20, 21, 22, 23, 24, 25, 26, 27, 28, 29, 30, 31] (by decide +kernel) (by decide +kernel)
set_option maxRecDepth 20000 in
theorem gX7_orders_X7_trades : GoodIn wsX7_orders (wsV RX7 201 RX7 yX7_trades wsX7_trades) := goodIn_app (goodIn_of _ (by decide +kernel)) ggX7_orders_X7_trades
theorem dX7_orders_0 : decode cX7_orders 0 = .ok (.aload_n 0, 1) := by decide +kernel
theorem dX7_orders_1 : decode cX7_orders 1 = .ok (.getfield 25, 3) := by decide +kernel
theorem dX7_orders_4 : decode cX7_orders 4 = .ok (.iconst 2, 1) := by decide +kernel
theorem dX7_orders_5 : decode cX7_orders 5 = .ok (.iaload, 1) := by decide +kernel
theorem dX7_orders_6 : decode cX7_orders 6 = .ok (.iconst 2, 1) := by decide +kernel
theorem dX7_orders_7 : decode cX7_orders 7 = .ok (.isub, 1) := by decide +kernel
theorem dX7_orders_8 : decode cX7_orders 8 = .ok (.istore_n 1, 1) := by decide +kernel
theorem dX7_orders_9 : decode cX7_orders 9 = .ok (.iload_n 1, 1) := by decide +kernel
theorem dX7_orders_10 : decode cX7_orders 10 = .ok (.ifCond .lt 26, 3) := by decide +kernel
theorem dX7_orders_13 : decode cX7_orders 13 = .ok (.aload_n 0, 1) := by decide +kernel
theorem dX7_orders_14 : decode cX7_orders 14 = .ok (.getfield 47, 3) := by decide +kernel
theorem dX7_orders_17 : decode cX7_orders 17 = .ok (.iload_n 1, 1) := by decide +kernel
theorem dX7_orders_18 : decode cX7_orders 18 = .ok (.iaload, 1) := by decide +kernel
theorem dX7_orders_19 : decode cX7_orders 19 = .ok (.aload_n 0, 1) := by decide +kernel
theorem dX7_orders_20 : decode cX7_orders 20 = .ok (.getfield 47, 3) := by decide +kernel
theorem dX7_orders_23 : decode cX7_orders 23 = .ok (.iload_n 1, 1) := by decide +kernel
theorem dX7_orders_24 : decode cX7_orders 24 = .ok (.iconst 1, 1) := by decide +kernel
theorem dX7_orders_25 : decode cX7_orders 25 = .ok (.iadd, 1) := by decide +kernel
theorem dX7_orders_26 : decode cX7_orders 26 = .ok (.iaload, 1) := by decide +kernel
theorem dX7_orders_27 : decode cX7_orders 27 = .ok (.if_icmp .le 9, 3) := by decide +kernel
theorem dX7_orders_30 : decode cX7_orders 30 = .ok (.iinc 1 (-1), 3) := by decide +kernel
theorem dX7_orders_33 : decode cX7_orders 33 = .ok (.goto (-24), 3) := by decide +kernel
theorem dX7_orders_36 : decode cX7_orders 36 = .ok (.iload_n 1, 1) := by decide +kernel
theorem dX7_orders_37 : decode cX7_orders 37 = .ok (.ifCond .ge 5, 3) := by decide +kernel
theorem dX7_orders_40 : decode cX7_orders 40 = .ok (.iconst 0, 1) := by decide +kernel
theorem dX7_orders_41 : decode cX7_orders 41 = .ok (.ireturn, 1) := by decide +kernel
theorem dX7_orders_42 : decode cX7_orders 42 = .ok (.aload_n 0, 1) := by decide +kernel
theorem dX7_orders_43 : decode cX7_orders 43 = .ok (.getfield 25, 3) := by decide +kernel
theorem dX7_orders_46 : decode cX7_orders 46 = .ok (.iconst 2, 1) := by decide +kernel
theorem dX7_orders_47 : decode cX7_orders 47 = .ok (.iaload, 1) := by decide +kernel
theorem dX7_orders_48 : decode cX7_orders 48 = .ok (.iconst 1, 1) := by decide +kernel
theorem dX7_orders_49 : decode cX7_orders 49 = .ok (.isub, 1) := by decide +kernel
theorem dX7_orders_50 : decode cX7_orders 50 = .ok (.istore_n 2, 1) := by decide +kernel
theorem dX7_orders_51 : decode cX7_orders 51 = .ok (.aload_n 0, 1) := by decide +kernel
theorem dX7_orders_52 : decode cX7_orders 52 = .ok (.getfield 47, 3) := by decide +kernel
theorem dX7_orders_55 : decode cX7_orders 55 = .ok (.iload_n 2, 1) := by decide +kernel
theorem dX7_orders_56 : decode cX7_orders 56 = .ok (.iaload, 1) := by decide +kernel
theorem dX7_orders_57 : decode cX7_orders 57 = .ok (.aload_n 0, 1) := by decide +kernel
theorem dX7_orders_58 : decode cX7_orders 58 = .ok (.getfield 47, 3) := by decide +kernel
theorem dX7_orders_61 : decode cX7_orders 61 = .ok (.iload_n 1, 1) := by decide +kernel
theorem dX7_orders_62 : decode cX7_orders 62 = .ok (.iaload, 1) := by decide +kernel
theorem dX7_orders_63 : decode cX7_orders 63 = .ok (.if_icmp .ge 9, 3) := by decide +kernel
theorem dX7_orders_66 : decode cX7_orders 66 = .ok (.iinc 2 (-1), 3) := by decide +kernel
theorem dX7_orders_69 : decode cX7_orders 69 = .ok (.goto (-18), 3) := by decide +kernel
theorem dX7_orders_72 : decode cX7_orders 72 = .ok (.aload_n 0, 1) := by decide +kernel
theorem dX7_orders_73 : decode cX7_orders 73 = .ok (.iload_n 1, 1) := by decide +kernel
theorem dX7_orders_74 : decode cX7_orders 74 = .ok (.iload_n 2, 1) := by decide +kernel
theorem dX7_orders_75 : decode cX7_orders 75 = .ok (.invokevirtual 201, 3) := by decide +kernel
theorem dX7_orders_78 : decode cX7_orders 78 = .ok (.iload_n 1, 1) := by decide +kernel
theorem dX7_orders_79 : decode cX7_orders 79 = .ok (.iconst 1, 1) := by decide +kernel
theorem dX7_orders_80 : decode cX7_orders 80 = .ok (.iadd, 1) := by decide +kernel
theorem dX7_orders_81 : decode cX7_orders 81 = .ok (.istore_n 3, 1) := by decide +kernel
theorem dX7_orders_82 : decode cX7_orders 82 = .ok (.aload_n 0, 1) := by decide +kernel
theorem dX7_orders_83 : decode cX7_orders 83 = .ok (.getfield 25, 3) := by decide +kernel
theorem dX7_orders_86 : decode cX7_orders 86 = .ok (.iconst 2, 1) := by decide +kernel
theorem dX7_orders_87 : decode cX7_orders 87 = .ok (.iaload, 1) := by decide +kernel
theorem dX7_orders_88 : decode cX7_orders 88 = .ok (.iconst 1, 1) := by decide +kernel
theorem dX7_orders_89 : decode cX7_orders 89 = .ok (.isub, 1) := by decide +kernel
theorem dX7_orders_90 : decode cX7_orders 90 = .ok (.istore 4, 2) := by decide +kernel
theorem dX7_orders_92 : decode cX7_orders 92 = .ok (.iload_n 3, 1) := by decide +kernel
theorem dX7_orders_93 : decode cX7_orders 93 = .ok (.iload 4, 2) := by decide +kernel
theorem dX7_orders_95 : decode cX7_orders 95 = .ok (.if_icmp .ge 19, 3) := by decide +kernel
theorem dX7_orders_98 : decode cX7_orders 98 = .ok (.aload_n 0, 1) := by decide +kernel
theorem dX7_orders_99 : decode cX7_orders 99 = .ok (.iload_n 3, 1) := by decide +kernel
theorem dX7_orders_100 : decode cX7_orders 100 = .ok (.iload 4, 2) := by decide +kernel
theorem dX7_orders_102 : decode cX7_orders 102 = .ok (.invokevirtual 201, 3) := by decide +kernel
theorem dX7_orders_105 : decode cX7_orders 105 = .ok (.iinc 3 1, 3) := by decide +kernel
theorem dX7_orders_108 : decode cX7_orders 108 = .ok (.iinc 4 (-1), 3) := by decide +kernel
theorem dX7_orders_111 : decode cX7_orders 111 = .ok (.goto (-19), 3) := by decide +kernel
theorem dX7_orders_114 : decode cX7_orders 114 = .ok (.iconst 1, 1) := by decide +kernel
theorem dX7_orders_115 : decode cX7_orders 115 = .ok (.ireturn, 1) := by decide +kernel
theorem dX7_trades_0 : decode cX7_trades 0 = .ok (.aload_n 0, 1) := by decide +kernel
theorem dX7_trades_1 : decode cX7_trades 1 = .ok (.getfield 47, 3) := by decide +kernel
theorem dX7_trades_4 : decode cX7_trades 4 = .ok (.iload_n 1, 1) := by decide +kernel
theorem dX7_trades_5 : decode cX7_trades 5 = .ok (.iaload, 1) := by decide +kernel
theorem dX7_trades_6 : decode cX7_trades 6 = .ok (.istore_n 3, 1) := by decide +kernel
theorem dX7_trades_7 : decode cX7_trades 7 = .ok (.aload_n 0, 1) := by decide +kernel
theorem dX7_trades_8 : decode cX7_trades 8 = .ok (.getfield 47, 3) := by decide +kernel
theorem dX7_trades_11 : decode cX7_trades 11 = .ok (.iload_n 1, 1) := by decide +kernel
theorem dX7_trades_12 : decode cX7_trades 12 = .ok (.aload_n 0, 1) := by decide +kernel
theorem dX7_trades_13 : decode cX7_trades 13 = .ok (.getfield 47, 3) := by decide +kernel
theorem dX7_trades_16 : decode cX7_trades 16 = .ok (.iload_n 2, 1) := by decide +kernel
theorem dX7_trades_17 : decode cX7_trades 17 = .ok (.iaload, 1) := by decide +kernel
theorem dX7_trades_18 : decode cX7_trades 18 = .ok (.iastore, 1) := by decide +kernel
theorem dX7_trades_19 : decode cX7_trades 19 = .ok (.aload_n 0, 1) := by decide +kernel
theorem dX7_trades_20 : decode cX7_trades 20 = .ok (.getfield 47, 3) := by decide +kernel
theorem dX7_trades_23 : decode cX7_trades 23 = .ok (.iload_n 2, 1) := by decide +kernel
theorem dX7_trades_24 : decode cX7_trades 24 = .ok (.iload_n 3, 1) := by decide +kernel
theorem dX7_trades_25 : decode cX7_trades 25 = .ok (.iastore, 1) := by decide +kernel
theorem dX7_trades_26 : decode cX7_trades 26 = .ok (.return_, 1) := by decide +kernel
set_option maxRecDepth 20000 in
theorem ggX7_order_X7_isWedding : GoodIn wsX7_order wsX7_isWedding := goodIn_r _ [10, 4, 54, 55, 56, 57, 58, 59, 60, 61, 62, 63, 64, 65, 66, 67, 68, 69, 70, 71, 72, 73, 74, 75, 76, 77] (by decide +kernel) (by decide +kernel)
set_option maxRecDepth 20000 in
theorem gX7_order_X7_isWedding : GoodIn wsX7_order (wsV RX7 166 RX7 yX7_isWedding wsX7_isWedding) := goodIn_app (goodIn_of _ (by decide +kernel)) ggX7_order_X7_isWedding
set_option maxRecDepth 20000 in
theorem ggX7_order_X7_in : GoodIn wsX7_order wsX7_in := goodIn_r _ [13] (by decide +kernel) (by decide +kernel)
set_option maxRecDepth 20000 in
theorem gX7_order_X7_in : GoodIn wsX7_order (va_wsS RX7 59 yX7_in wsX7_in) := goodIn_app (goodIn_of _ (by decide +kernel)) ggX7_order_X7_in
set_option maxRecDepth 20000 in
theorem ggX7_order_X7_copies : GoodIn wsX7_order wsX7_copies := goodIn_r _ [16] (by decide +kernel) (by decide +kernel)
set_option maxRecDepth 20000 in
theorem gX7_order_X7_copies : GoodIn wsX7_order (va_wsS RX7 138 yX7_copies wsX7_copies) := goodIn_app (goodIn_of _ (by decide +kernel)) ggX7_order_X7_copies
set_option maxRecDepth 20000 in
theorem ggX7_order_X7_goesOn : GoodIn wsX7_order wsX7_goesOn := goodIn_r _ [20, 5, 21, 22, 23, 9, 24, 25, 26, 27, 28, 29, 30, 31, 32, 33, 34, 35, 36, 37, 38, 39, 40, 41, 42, 43, 44, 45, 54, 55, 56, 57, 58, 59, 60, 61, 62, 63, 64, 65, 66, 67, 68, 69, 70, 71, 72, 73, 74, 75, 76, 77] (by decide +kernel) (by decide +kernel)
set_option maxRecDepth 20000 in
theorem gX7_order_X7_goesOn : GoodIn wsX7_order (wsV RX7 191 RX7 yX7_goesOn wsX7_goesOn) := goodIn_app (goodIn_of _ (by decide +kernel)) ggX7_order_X7_goesOn
set_option maxRecDepth 20000 in
theorem ggX7_order_X7_greater : GoodIn wsX7_order wsX7_greater := goodIn_r _ [42] (by decide +kernel) (by decide +kernel)
set_option maxRecDepth 20000 in
theorem gX7_order_X7_greater : GoodIn wsX7_order (va_wsS RX7 156 yX7_greater wsX7_greater) := goodIn_app (goodIn_of _ (by decide +kernel)) ggX7_order_X7_greater
set_option maxRecDepth 20000 in
theorem ggX7_order_X7_orders : GoodIn wsX7_order wsX7_orders := goodIn_r _ [49, 4, 3, 50, 51, 52, 9, 53, 54, 55, 56, 57, 58, 59, 60, 61, 62, 63, 64, 65, 66, 67, 68, 69, 70, 71, 72, 73, 74, 75, 76, 77] (by decide +kernel) (by decide +kernel)
set_option maxRecDepth 20000 in
theorem gX7_order_X7_orders : GoodIn wsX7_order (wsV RX7 205 RX7 yX7_orders wsX7_orders) := goodIn_app (goodIn_of _ (by decide +kernel)) ggX7_order_X7_orders
theorem dX7_order_0 : decode cX7_order 0 = .ok (.aload_n 0, 1) := by decide +kernel
theorem dX7_order_1 : decode cX7_order 1 = .ok (.invokevirtual 166, 3) := by decide +kernel
theorem dX7_order_4 : decode cX7_order 4 = .ok (.ifCond .ne 6, 3) := by decide +kernel
theorem dX7_order_7 : decode cX7_order 7 = .ok (.ldc 169, 2) := by decide +kernel
theorem dX7_order_9 : decode cX7_order 9 = .ok (.ireturn, 1) := by decide +kernel
theorem dX7_order_10 : decode cX7_order 10 = .ok (.iload_n 1, 1) := by decide +kernel
theorem dX7_order_11 : decode cX7_order 11 = .ok (.iconst 1, 1) := by decide +kernel
theorem dX7_order_12 : decode cX7_order 12 = .ok (.bipush 10, 2) := by decide +kernel
theorem dX7_order_14 : decode cX7_order 14 = .ok (.invokestatic 59, 3) := by decide +kernel
theorem dX7_order_17 : decode cX7_order 17 = .ok (.ifCond .eq 12, 3) := by decide +kernel
theorem dX7_order_20 : decode cX7_order 20 = .ok (.iload_n 2, 1) := by decide +kernel
theorem dX7_order_21 : decode cX7_order 21 = .ok (.iconst 0, 1) := by decide +kernel
theorem dX7_order_22 : decode cX7_order 22 = .ok (.iconst 1, 1) := by decide +kernel
theorem dX7_order_23 : decode cX7_order 23 = .ok (.invokestatic 59, 3) := by decide +kernel
theorem dX7_order_26 : decode cX7_order 26 = .ok (.ifCond .ne 6, 3) := by decide +kernel
theorem dX7_order_29 : decode cX7_order 29 = .ok (.ldc 67, 2) := by decide +kernel
theorem dX7_order_31 : decode cX7_order 31 = .ok (.ireturn, 1) := by decide +kernel
theorem dX7_order_32 : decode cX7_order 32 = .ok (.iconst 0, 1) := by decide +kernel
theorem dX7_order_33 : decode cX7_order 33 = .ok (.istore_n 3, 1) := by decide +kernel
theorem dX7_order_34 : decode cX7_order 34 = .ok (.iload_n 3, 1) := by decide +kernel
theorem dX7_order_35 : decode cX7_order 35 = .ok (.bipush 7, 2) := by decide +kernel
theorem dX7_order_37 : decode cX7_order 37 = .ok (.if_icmp .ge 16, 3) := by decide +kernel
theorem dX7_order_40 : decode cX7_order 40 = .ok (.aload_n 0, 1) := by decide +kernel
theorem dX7_order_41 : decode cX7_order 41 = .ok (.getfield 47, 3) := by decide +kernel
theorem dX7_order_44 : decode cX7_order 44 = .ok (.iload_n 3, 1) := by decide +kernel
theorem dX7_order_45 : decode cX7_order 45 = .ok (.iload_n 3, 1) := by decide +kernel
theorem dX7_order_46 : decode cX7_order 46 = .ok (.iastore, 1) := by decide +kernel
theorem dX7_order_47 : decode cX7_order 47 = .ok (.iinc 3 1, 3) := by decide +kernel
theorem dX7_order_50 : decode cX7_order 50 = .ok (.goto (-16), 3) := by decide +kernel
theorem dX7_order_53 : decode cX7_order 53 = .ok (.iconst 0, 1) := by decide +kernel
theorem dX7_order_54 : decode cX7_order 54 = .ok (.istore_n 3, 1) := by decide +kernel
theorem dX7_order_55 : decode cX7_order 55 = .ok (.iconst (-1), 1) := by decide +kernel
theorem dX7_order_56 : decode cX7_order 56 = .ok (.istore 4, 2) := by decide +kernel
theorem dX7_order_58 : decode cX7_order 58 = .ok (.iconst 1, 1) := by decide +kernel
theorem dX7_order_59 : decode cX7_order 59 = .ok (.istore 5, 2) := by decide +kernel
theorem dX7_order_61 : decode cX7_order 61 = .ok (.iload 5, 2) := by decide +kernel
theorem dX7_order_63 : decode cX7_order 63 = .ok (.ifCond .eq 121, 3) := by decide +kernel
theorem dX7_order_66 : decode cX7_order 66 = .ok (.iconst 0, 1) := by decide +kernel
theorem dX7_order_67 : decode cX7_order 67 = .ok (.istore 6, 2) := by decide +kernel
theorem dX7_order_69 : decode cX7_order 69 = .ok (.aload_n 0, 1) := by decide +kernel
theorem dX7_order_70 : decode cX7_order 70 = .ok (.getfield 25, 3) := by decide +kernel
theorem dX7_order_73 : decode cX7_order 73 = .ok (.iconst 0, 1) := by decide +kernel
theorem dX7_order_74 : decode cX7_order 74 = .ok (.aload_n 0, 1) := by decide +kernel
theorem dX7_order_75 : decode cX7_order 75 = .ok (.getfield 31, 3) := by decide +kernel
theorem dX7_order_78 : decode cX7_order 78 = .ok (.iconst 0, 1) := by decide +kernel
theorem dX7_order_79 : decode cX7_order 79 = .ok (.invokestatic 138, 3) := by decide +kernel
theorem dX7_order_82 : decode cX7_order 82 = .ok (.iconst 0, 1) := by decide +kernel
theorem dX7_order_83 : decode cX7_order 83 = .ok (.istore 7, 2) := by decide +kernel
theorem dX7_order_85 : decode cX7_order 85 = .ok (.iload 7, 2) := by decide +kernel
theorem dX7_order_87 : decode cX7_order 87 = .ok (.aload_n 0, 1) := by decide +kernel
theorem dX7_order_88 : decode cX7_order 88 = .ok (.getfield 25, 3) := by decide +kernel
theorem dX7_order_91 : decode cX7_order 91 = .ok (.iconst 2, 1) := by decide +kernel
theorem dX7_order_92 : decode cX7_order 92 = .ok (.iaload, 1) := by decide +kernel
theorem dX7_order_93 : decode cX7_order 93 = .ok (.if_icmp .ge 46, 3) := by decide +kernel
theorem dX7_order_96 : decode cX7_order 96 = .ok (.aload_n 0, 1) := by decide +kernel
theorem dX7_order_97 : decode cX7_order 97 = .ok (.getfield 31, 3) := by decide +kernel
theorem dX7_order_100 : decode cX7_order 100 = .ok (.bipush 6, 2) := by decide +kernel
theorem dX7_order_102 : decode cX7_order 102 = .ok (.bipush 7, 2) := by decide +kernel
theorem dX7_order_104 : decode cX7_order 104 = .ok (.aload_n 0, 1) := by decide +kernel
theorem dX7_order_105 : decode cX7_order 105 = .ok (.getfield 47, 3) := by decide +kernel
theorem dX7_order_108 : decode cX7_order 108 = .ok (.iload 7, 2) := by decide +kernel
theorem dX7_order_110 : decode cX7_order 110 = .ok (.iaload, 1) := by decide +kernel
theorem dX7_order_111 : decode cX7_order 111 = .ok (.imul, 1) := by decide +kernel
theorem dX7_order_112 : decode cX7_order 112 = .ok (.iadd, 1) := by decide +kernel
theorem dX7_order_113 : decode cX7_order 113 = .ok (.iconst 4, 1) := by decide +kernel
theorem dX7_order_114 : decode cX7_order 114 = .ok (.iadd, 1) := by decide +kernel
theorem dX7_order_115 : decode cX7_order 115 = .ok (.iload 7, 2) := by decide +kernel
theorem dX7_order_117 : decode cX7_order 117 = .ok (.iastore, 1) := by decide +kernel
theorem dX7_order_118 : decode cX7_order 118 = .ok (.bipush 10, 2) := by decide +kernel
theorem dX7_order_120 : decode cX7_order 120 = .ok (.iload 6, 2) := by decide +kernel
theorem dX7_order_122 : decode cX7_order 122 = .ok (.imul, 1) := by decide +kernel
theorem dX7_order_123 : decode cX7_order 123 = .ok (.aload_n 0, 1) := by decide +kernel
theorem dX7_order_124 : decode cX7_order 124 = .ok (.getfield 47, 3) := by decide +kernel
theorem dX7_order_127 : decode cX7_order 127 = .ok (.iload 7, 2) := by decide +kernel
theorem dX7_order_129 : decode cX7_order 129 = .ok (.iaload, 1) := by decide +kernel
theorem dX7_order_130 : decode cX7_order 130 = .ok (.iadd, 1) := by decide +kernel
theorem dX7_order_131 : decode cX7_order 131 = .ok (.istore 6, 2) := by decide +kernel
theorem dX7_order_133 : decode cX7_order 133 = .ok (.iinc 7 1, 3) := by decide +kernel
theorem dX7_order_136 : decode cX7_order 136 = .ok (.goto (-51), 3) := by decide +kernel
theorem dX7_order_139 : decode cX7_order 139 = .ok (.aload_n 0, 1) := by decide +kernel
theorem dX7_order_140 : decode cX7_order 140 = .ok (.iload_n 1, 1) := by decide +kernel
theorem dX7_order_141 : decode cX7_order 141 = .ok (.invokevirtual 191, 3) := by decide +kernel
theorem dX7_order_144 : decode cX7_order 144 = .ok (.aload_n 0, 1) := by decide +kernel
theorem dX7_order_145 : decode cX7_order 145 = .ok (.getfield 31, 3) := by decide +kernel
theorem dX7_order_148 : decode cX7_order 148 = .ok (.iconst 4, 1) := by decide +kernel
theorem dX7_order_149 : decode cX7_order 149 = .ok (.iaload, 1) := by decide +kernel
theorem dX7_order_150 : decode cX7_order 150 = .ok (.iload 4, 2) := by decide +kernel
theorem dX7_order_152 : decode cX7_order 152 = .ok (.if_icmp .le 8, 3) := by decide +kernel
theorem dX7_order_155 : decode cX7_order 155 = .ok (.iload 6, 2) := by decide +kernel
theorem dX7_order_157 : decode cX7_order 157 = .ok (.goto 4, 3) := by decide +kernel
theorem dX7_order_160 : decode cX7_order 160 = .ok (.iload_n 3, 1) := by decide +kernel
theorem dX7_order_161 : decode cX7_order 161 = .ok (.istore_n 3, 1) := by decide +kernel
theorem dX7_order_162 : decode cX7_order 162 = .ok (.aload_n 0, 1) := by decide +kernel
theorem dX7_order_163 : decode cX7_order 163 = .ok (.getfield 31, 3) := by decide +kernel
theorem dX7_order_166 : decode cX7_order 166 = .ok (.iconst 4, 1) := by decide +kernel
theorem dX7_order_167 : decode cX7_order 167 = .ok (.iaload, 1) := by decide +kernel
theorem dX7_order_168 : decode cX7_order 168 = .ok (.iload 4, 2) := by decide +kernel
theorem dX7_order_170 : decode cX7_order 170 = .ok (.invokestatic 156, 3) := by decide +kernel
theorem dX7_order_173 : decode cX7_order 173 = .ok (.istore 4, 2) := by decide +kernel
theorem dX7_order_175 : decode cX7_order 175 = .ok (.aload_n 0, 1) := by decide +kernel
theorem dX7_order_176 : decode cX7_order 176 = .ok (.invokevirtual 205, 3) := by decide +kernel
theorem dX7_order_179 : decode cX7_order 179 = .ok (.istore 5, 2) := by decide +kernel
theorem dX7_order_181 : decode cX7_order 181 = .ok (.goto (-120), 3) := by decide +kernel
theorem dX7_order_184 : decode cX7_order 184 = .ok (.iload_n 2, 1) := by decide +kernel
theorem dX7_order_185 : decode cX7_order 185 = .ok (.ifCond .ne 7, 3) := by decide +kernel
theorem dX7_order_188 : decode cX7_order 188 = .ok (.iload_n 3, 1) := by decide +kernel
theorem dX7_order_189 : decode cX7_order 189 = .ok (.goto 5, 3) := by decide +kernel
theorem dX7_order_192 : decode cX7_order 192 = .ok (.iload 4, 2) := by decide +kernel
theorem dX7_order_194 : decode cX7_order 194 = .ok (.ireturn, 1) := by decide +kernel
set_option maxRecDepth 20000 in
theorem ggX7_change_X7_isWedding : GoodIn wsX7_change wsX7_isWedding := goodIn_r _ [10, 4, 48, 49, 50, 51, 52, 53, 54, 55, 56, 57, 58, 59, 60, 61, 62, 63, 64, 65, 66, 67, 68, 69, 70, 71] (by decide +kernel) (by decide +kernel)
set_option maxRecDepth 20000 in
theorem gX7_change_X7_isWedding : GoodIn wsX7_change (wsV RX7 166 RX7 yX7_isWedding wsX7_isWedding) := goodIn_app (goodIn_of _ (by decide +kernel)) ggX7_change_X7_isWedding
set_option maxRecDepth 20000 in
theorem ggX7_change_X7_in : GoodIn wsX7_change wsX7_in := goodIn_r _ [13] (by decide +kernel) (by decide +kernel)
set_option maxRecDepth 20000 in
theorem gX7_change_X7_in : GoodIn wsX7_change (va_wsS RX7 59 yX7_in wsX7_in) := goodIn_app (goodIn_of _ (by decide +kernel)) ggX7_change_X7_in
set_option maxRecDepth 20000 in
theorem ggX7_change_X7_copies : GoodIn wsX7_change wsX7_copies := goodIn_r _ [16] (by decide +kernel) (by decide +kernel)
set_option maxRecDepth 20000 in
theorem gX7_change_X7_copies : GoodIn wsX7_change (va_wsS RX7 138 yX7_copies wsX7_copies) := goodIn_app (goodIn_of _ (by decide +kernel)) ggX7_change_X7_copies
set_option maxRecDepth 20000 in
theorem ggX7_change_X7_changes : GoodIn wsX7_change wsX7_changes := goodIn_r _ [19] (by decide +kernel) (by decide +kernel)
set_option maxRecDepth 20000 in
theorem gX7_change_X7_changes : GoodIn wsX7_change (va_wsS RX7 188 yX7_changes wsX7_changes) := goodIn_app (goodIn_of _ (by decide +kernel)) ggX7_change_X7_changes
set_option maxRecDepth 20000 in
theorem ggX7_change_X7_goesOn : GoodIn wsX7_change wsX7_goesOn := goodIn_r _ [23, 5, 24, 25, 26, 9, 27, 28, 29, 30, 31, 32, 33, 34, 35, 3, 36, 37, 38, 39, 40, 41, 42, 43, 44, 45, 46, 47, 48, 49, 50, 51, 52, 53, 54, 55, 56, 57, 58, 59, 60, 61, 62, 63, 64, 65, 66, 67, 68, 69, 70, 71] (by decide +kernel) (by decide +kernel)
set_option maxRecDepth 20000 in
theorem gX7_change_X7_goesOn : GoodIn wsX7_change (wsV RX7 191 RX7 yX7_goesOn wsX7_goesOn) := goodIn_app (goodIn_of _ (by decide +kernel)) ggX7_change_X7_goesOn
set_option maxRecDepth 20000 in
theorem ggX7_change_X7_greater : GoodIn wsX7_change wsX7_greater := goodIn_r _ [44] (by decide +kernel) (by decide +kernel)
set_option maxRecDepth 20000 in
theorem gX7_change_X7_greater : GoodIn wsX7_change (va_wsS RX7 156 yX7_greater wsX7_greater) := goodIn_app (goodIn_of _ (by decide +kernel)) ggX7_change_X7_greater
theorem dX7_change_0 : decode cX7_change 0 = .ok (.aload_n 0, 1) := by decide +kernel
theorem dX7_change_1 : decode cX7_change 1 = .ok (.invokevirtual 166, 3) := by decide +kernel
theorem dX7_change_4 : decode cX7_change 4 = .ok (.ifCond .ne 6, 3) := by decide +kernel
theorem dX7_change_7 : decode cX7_change 7 = .ok (.ldc 169, 2) := by decide +kernel
theorem dX7_change_9 : decode cX7_change 9 = .ok (.ireturn, 1) := by decide +kernel
theorem dX7_change_10 : decode cX7_change 10 = .ok (.iload_n 1, 1) := by decide +kernel
theorem dX7_change_11 : decode cX7_change 11 = .ok (.iconst 1, 1) := by decide +kernel
theorem dX7_change_12 : decode cX7_change 12 = .ok (.bipush 30, 2) := by decide +kernel
theorem dX7_change_14 : decode cX7_change 14 = .ok (.invokestatic 59, 3) := by decide +kernel
theorem dX7_change_17 : decode cX7_change 17 = .ok (.ifCond .eq 12, 3) := by decide +kernel
theorem dX7_change_20 : decode cX7_change 20 = .ok (.iload_n 2, 1) := by decide +kernel
theorem dX7_change_21 : decode cX7_change 21 = .ok (.iconst 0, 1) := by decide +kernel
theorem dX7_change_22 : decode cX7_change 22 = .ok (.iconst 1, 1) := by decide +kernel
theorem dX7_change_23 : decode cX7_change 23 = .ok (.invokestatic 59, 3) := by decide +kernel
theorem dX7_change_26 : decode cX7_change 26 = .ok (.ifCond .ne 6, 3) := by decide +kernel
theorem dX7_change_29 : decode cX7_change 29 = .ok (.ldc 67, 2) := by decide +kernel
theorem dX7_change_31 : decode cX7_change 31 = .ok (.ireturn, 1) := by decide +kernel
theorem dX7_change_32 : decode cX7_change 32 = .ok (.ldc 53, 2) := by decide +kernel
theorem dX7_change_34 : decode cX7_change 34 = .ok (.istore_n 3, 1) := by decide +kernel
theorem dX7_change_35 : decode cX7_change 35 = .ok (.ldc 53, 2) := by decide +kernel
theorem dX7_change_37 : decode cX7_change 37 = .ok (.istore 4, 2) := by decide +kernel
theorem dX7_change_39 : decode cX7_change 39 = .ok (.iconst 0, 1) := by decide +kernel
theorem dX7_change_40 : decode cX7_change 40 = .ok (.istore 5, 2) := by decide +kernel
theorem dX7_change_42 : decode cX7_change 42 = .ok (.iload 5, 2) := by decide +kernel
theorem dX7_change_44 : decode cX7_change 44 = .ok (.aload_n 0, 1) := by decide +kernel
theorem dX7_change_45 : decode cX7_change 45 = .ok (.getfield 25, 3) := by decide +kernel
theorem dX7_change_48 : decode cX7_change 48 = .ok (.iconst 2, 1) := by decide +kernel
theorem dX7_change_49 : decode cX7_change 49 = .ok (.iaload, 1) := by decide +kernel
theorem dX7_change_50 : decode cX7_change 50 = .ok (.if_icmp .ge 98, 3) := by decide +kernel
theorem dX7_change_53 : decode cX7_change 53 = .ok (.iload 5, 2) := by decide +kernel
theorem dX7_change_55 : decode cX7_change 55 = .ok (.iconst 1, 1) := by decide +kernel
theorem dX7_change_56 : decode cX7_change 56 = .ok (.iadd, 1) := by decide +kernel
theorem dX7_change_57 : decode cX7_change 57 = .ok (.istore 6, 2) := by decide +kernel
theorem dX7_change_59 : decode cX7_change 59 = .ok (.iload 6, 2) := by decide +kernel
theorem dX7_change_61 : decode cX7_change 61 = .ok (.aload_n 0, 1) := by decide +kernel
theorem dX7_change_62 : decode cX7_change 62 = .ok (.getfield 25, 3) := by decide +kernel
theorem dX7_change_65 : decode cX7_change 65 = .ok (.iconst 2, 1) := by decide +kernel
theorem dX7_change_66 : decode cX7_change 66 = .ok (.iaload, 1) := by decide +kernel
theorem dX7_change_67 : decode cX7_change 67 = .ok (.if_icmp .ge 75, 3) := by decide +kernel
theorem dX7_change_70 : decode cX7_change 70 = .ok (.aload_n 0, 1) := by decide +kernel
theorem dX7_change_71 : decode cX7_change 71 = .ok (.getfield 25, 3) := by decide +kernel
theorem dX7_change_74 : decode cX7_change 74 = .ok (.iconst 0, 1) := by decide +kernel
theorem dX7_change_75 : decode cX7_change 75 = .ok (.aload_n 0, 1) := by decide +kernel
theorem dX7_change_76 : decode cX7_change 76 = .ok (.getfield 31, 3) := by decide +kernel
theorem dX7_change_79 : decode cX7_change 79 = .ok (.iconst 0, 1) := by decide +kernel
theorem dX7_change_80 : decode cX7_change 80 = .ok (.invokestatic 138, 3) := by decide +kernel
theorem dX7_change_83 : decode cX7_change 83 = .ok (.aload_n 0, 1) := by decide +kernel
theorem dX7_change_84 : decode cX7_change 84 = .ok (.getfield 31, 3) := by decide +kernel
theorem dX7_change_87 : decode cX7_change 87 = .ok (.iload 5, 2) := by decide +kernel
theorem dX7_change_89 : decode cX7_change 89 = .ok (.iload 6, 2) := by decide +kernel
theorem dX7_change_91 : decode cX7_change 91 = .ok (.invokestatic 188, 3) := by decide +kernel
theorem dX7_change_94 : decode cX7_change 94 = .ok (.aload_n 0, 1) := by decide +kernel
theorem dX7_change_95 : decode cX7_change 95 = .ok (.iload_n 1, 1) := by decide +kernel
theorem dX7_change_96 : decode cX7_change 96 = .ok (.invokevirtual 191, 3) := by decide +kernel
theorem dX7_change_99 : decode cX7_change 99 = .ok (.aload_n 0, 1) := by decide +kernel
theorem dX7_change_100 : decode cX7_change 100 = .ok (.getfield 31, 3) := by decide +kernel
theorem dX7_change_103 : decode cX7_change 103 = .ok (.iconst 4, 1) := by decide +kernel
theorem dX7_change_104 : decode cX7_change 104 = .ok (.iaload, 1) := by decide +kernel
theorem dX7_change_105 : decode cX7_change 105 = .ok (.iload 4, 2) := by decide +kernel
theorem dX7_change_107 : decode cX7_change 107 = .ok (.if_icmp .le 14, 3) := by decide +kernel
theorem dX7_change_110 : decode cX7_change 110 = .ok (.bipush 10, 2) := by decide +kernel
theorem dX7_change_112 : decode cX7_change 112 = .ok (.iload 5, 2) := by decide +kernel
theorem dX7_change_114 : decode cX7_change 114 = .ok (.imul, 1) := by decide +kernel
theorem dX7_change_115 : decode cX7_change 115 = .ok (.iload 6, 2) := by decide +kernel
theorem dX7_change_117 : decode cX7_change 117 = .ok (.iadd, 1) := by decide +kernel
theorem dX7_change_118 : decode cX7_change 118 = .ok (.goto 4, 3) := by decide +kernel
theorem dX7_change_121 : decode cX7_change 121 = .ok (.iload_n 3, 1) := by decide +kernel
theorem dX7_change_122 : decode cX7_change 122 = .ok (.istore_n 3, 1) := by decide +kernel
theorem dX7_change_123 : decode cX7_change 123 = .ok (.aload_n 0, 1) := by decide +kernel
theorem dX7_change_124 : decode cX7_change 124 = .ok (.getfield 31, 3) := by decide +kernel
theorem dX7_change_127 : decode cX7_change 127 = .ok (.iconst 4, 1) := by decide +kernel
theorem dX7_change_128 : decode cX7_change 128 = .ok (.iaload, 1) := by decide +kernel
theorem dX7_change_129 : decode cX7_change 129 = .ok (.iload 4, 2) := by decide +kernel
theorem dX7_change_131 : decode cX7_change 131 = .ok (.invokestatic 156, 3) := by decide +kernel
theorem dX7_change_134 : decode cX7_change 134 = .ok (.istore 4, 2) := by decide +kernel
theorem dX7_change_136 : decode cX7_change 136 = .ok (.iinc 6 1, 3) := by decide +kernel
theorem dX7_change_139 : decode cX7_change 139 = .ok (.goto (-80), 3) := by decide +kernel
theorem dX7_change_142 : decode cX7_change 142 = .ok (.iinc 5 1, 3) := by decide +kernel
theorem dX7_change_145 : decode cX7_change 145 = .ok (.goto (-103), 3) := by decide +kernel
theorem dX7_change_148 : decode cX7_change 148 = .ok (.iload_n 2, 1) := by decide +kernel
theorem dX7_change_149 : decode cX7_change 149 = .ok (.ifCond .ne 7, 3) := by decide +kernel
theorem dX7_change_152 : decode cX7_change 152 = .ok (.iload_n 3, 1) := by decide +kernel
theorem dX7_change_153 : decode cX7_change 153 = .ok (.goto 5, 3) := by decide +kernel
theorem dX7_change_156 : decode cX7_change 156 = .ok (.iload 4, 2) := by decide +kernel
theorem dX7_change_158 : decode cX7_change 158 = .ok (.ireturn, 1) := by decide +kernel
set_option maxRecDepth 20000 in
theorem ggX7_shedsSo_X7_copies : GoodIn wsX7_shedsSo wsX7_copies := goodIn_r _ [7] (by decide +kernel) (by decide +kernel)
set_option maxRecDepth 20000 in
theorem gX7_shedsSo_X7_copies : GoodIn wsX7_shedsSo (va_wsS RX7 138 yX7_copies wsX7_copies) := goodIn_app (goodIn_of _ (by decide +kernel)) ggX7_shedsSo_X7_copies
set_option maxRecDepth 20000 in
theorem ggX7_shedsSo_X7_passes : GoodIn wsX7_shedsSo wsX7_passes := goodIn_r _ [11, 12, 13, 14, 15, 6, 16, 17, 18, 19, 20, 21, 22, 23, 24, 25, 26, 27, 28, 29, 30, 31, 32, 33, 34, 35, 36, 37, 38, 39, 40, 41, 42, 43, 44, 45, 46, 47, 48, 49, 50, 51, 52, 53, 54, 55, 56] (by decide +kernel) (by decide +kernel)
set_option maxRecDepth 20000 in
theorem gX7_shedsSo_X7_passes : GoodIn wsX7_shedsSo (wsV RX7 173 RX7 yX7_passes wsX7_passes) := goodIn_app (goodIn_of _ (by decide +kernel)) ggX7_shedsSo_X7_passes
theorem dX7_shedsSo_0 : decode cX7_shedsSo 0 = .ok (.aload_n 0, 1) := by decide +kernel
theorem dX7_shedsSo_1 : decode cX7_shedsSo 1 = .ok (.getfield 25, 3) := by decide +kernel
theorem dX7_shedsSo_4 : decode cX7_shedsSo 4 = .ok (.iconst 0, 1) := by decide +kernel
theorem dX7_shedsSo_5 : decode cX7_shedsSo 5 = .ok (.aload_n 0, 1) := by decide +kernel
theorem dX7_shedsSo_6 : decode cX7_shedsSo 6 = .ok (.getfield 31, 3) := by decide +kernel
theorem dX7_shedsSo_9 : decode cX7_shedsSo 9 = .ok (.iconst 0, 1) := by decide +kernel
theorem dX7_shedsSo_10 : decode cX7_shedsSo 10 = .ok (.invokestatic 138, 3) := by decide +kernel
theorem dX7_shedsSo_13 : decode cX7_shedsSo 13 = .ok (.aload_n 0, 1) := by decide +kernel
theorem dX7_shedsSo_14 : decode cX7_shedsSo 14 = .ok (.getfield 31, 3) := by decide +kernel
theorem dX7_shedsSo_17 : decode cX7_shedsSo 17 = .ok (.iload 4, 2) := by decide +kernel
theorem dX7_shedsSo_19 : decode cX7_shedsSo 19 = .ok (.iload 5, 2) := by decide +kernel
theorem dX7_shedsSo_21 : decode cX7_shedsSo 21 = .ok (.iastore, 1) := by decide +kernel
theorem dX7_shedsSo_22 : decode cX7_shedsSo 22 = .ok (.iconst 1, 1) := by decide +kernel
theorem dX7_shedsSo_23 : decode cX7_shedsSo 23 = .ok (.istore 6, 2) := by decide +kernel
theorem dX7_shedsSo_25 : decode cX7_shedsSo 25 = .ok (.iconst 0, 1) := by decide +kernel
theorem dX7_shedsSo_26 : decode cX7_shedsSo 26 = .ok (.istore 7, 2) := by decide +kernel
theorem dX7_shedsSo_28 : decode cX7_shedsSo 28 = .ok (.iload 7, 2) := by decide +kernel
theorem dX7_shedsSo_30 : decode cX7_shedsSo 30 = .ok (.iload_n 3, 1) := by decide +kernel
theorem dX7_shedsSo_31 : decode cX7_shedsSo 31 = .ok (.if_icmp .ge 56, 3) := by decide +kernel
theorem dX7_shedsSo_34 : decode cX7_shedsSo 34 = .ok (.aload_n 0, 1) := by decide +kernel
theorem dX7_shedsSo_35 : decode cX7_shedsSo 35 = .ok (.aload_n 0, 1) := by decide +kernel
theorem dX7_shedsSo_36 : decode cX7_shedsSo 36 = .ok (.getfield 31, 3) := by decide +kernel
theorem dX7_shedsSo_39 : decode cX7_shedsSo 39 = .ok (.invokevirtual 173, 3) := by decide +kernel
theorem dX7_shedsSo_42 : decode cX7_shedsSo 42 = .ok (.iload 6, 2) := by decide +kernel
theorem dX7_shedsSo_44 : decode cX7_shedsSo 44 = .ok (.ifCond .eq 34, 3) := by decide +kernel
theorem dX7_shedsSo_47 : decode cX7_shedsSo 47 = .ok (.aload_n 0, 1) := by decide +kernel
theorem dX7_shedsSo_48 : decode cX7_shedsSo 48 = .ok (.getfield 31, 3) := by decide +kernel
theorem dX7_shedsSo_51 : decode cX7_shedsSo 51 = .ok (.bipush 6, 2) := by decide +kernel
theorem dX7_shedsSo_53 : decode cX7_shedsSo 53 = .ok (.bipush 7, 2) := by decide +kernel
theorem dX7_shedsSo_55 : decode cX7_shedsSo 55 = .ok (.iload_n 1, 1) := by decide +kernel
theorem dX7_shedsSo_56 : decode cX7_shedsSo 56 = .ok (.imul, 1) := by decide +kernel
theorem dX7_shedsSo_57 : decode cX7_shedsSo 57 = .ok (.iadd, 1) := by decide +kernel
theorem dX7_shedsSo_58 : decode cX7_shedsSo 58 = .ok (.bipush 6, 2) := by decide +kernel
theorem dX7_shedsSo_60 : decode cX7_shedsSo 60 = .ok (.iadd, 1) := by decide +kernel
theorem dX7_shedsSo_61 : decode cX7_shedsSo 61 = .ok (.iaload, 1) := by decide +kernel
theorem dX7_shedsSo_62 : decode cX7_shedsSo 62 = .ok (.aload_n 0, 1) := by decide +kernel
theorem dX7_shedsSo_63 : decode cX7_shedsSo 63 = .ok (.getfield 16, 3) := by decide +kernel
theorem dX7_shedsSo_66 : decode cX7_shedsSo 66 = .ok (.iload_n 2, 1) := by decide +kernel
theorem dX7_shedsSo_67 : decode cX7_shedsSo 67 = .ok (.iload 7, 2) := by decide +kernel
theorem dX7_shedsSo_69 : decode cX7_shedsSo 69 = .ok (.iadd, 1) := by decide +kernel
theorem dX7_shedsSo_70 : decode cX7_shedsSo 70 = .ok (.iaload, 1) := by decide +kernel
theorem dX7_shedsSo_71 : decode cX7_shedsSo 71 = .ok (.if_icmp .ne 7, 3) := by decide +kernel
theorem dX7_shedsSo_74 : decode cX7_shedsSo 74 = .ok (.iconst 1, 1) := by decide +kernel
theorem dX7_shedsSo_75 : decode cX7_shedsSo 75 = .ok (.goto 4, 3) := by decide +kernel
theorem dX7_shedsSo_78 : decode cX7_shedsSo 78 = .ok (.iconst 0, 1) := by decide +kernel
theorem dX7_shedsSo_79 : decode cX7_shedsSo 79 = .ok (.istore 6, 2) := by decide +kernel
theorem dX7_shedsSo_81 : decode cX7_shedsSo 81 = .ok (.iinc 7 1, 3) := by decide +kernel
theorem dX7_shedsSo_84 : decode cX7_shedsSo 84 = .ok (.goto (-56), 3) := by decide +kernel
theorem dX7_shedsSo_87 : decode cX7_shedsSo 87 = .ok (.iload 6, 2) := by decide +kernel
theorem dX7_shedsSo_89 : decode cX7_shedsSo 89 = .ok (.ireturn, 1) := by decide +kernel
set_option maxRecDepth 20000 in
theorem ggX7_fits_X7_isGuest : GoodIn wsX7_fits wsX7_isGuest := goodIn_r _ [7, 8, 9, 10, 6, 11, 68, 69, 70, 71, 72, 73, 74, 75, 76, 77, 78, 79, 80, 81, 82, 83, 84, 85, 86, 87, 88, 89, 90, 91] (by decide +kernel) (by decide +kernel)
set_option maxRecDepth 20000 in
theorem gX7_fits_X7_isGuest : GoodIn wsX7_fits (wsV RX7 177 RX7 yX7_isGuest wsX7_isGuest) := goodIn_app (goodIn_of _ (by decide +kernel)) ggX7_fits_X7_isGuest
set_option maxRecDepth 20000 in
theorem ggX7_fits_X7_isRow : GoodIn wsX7_fits wsX7_isRow := goodIn_r _ [14, 9, 10, 6, 11] (by decide +kernel) (by decide +kernel)
set_option maxRecDepth 20000 in
theorem gX7_fits_X7_isRow : GoodIn wsX7_fits (va_wsS RX7 63 yX7_isRow wsX7_isRow) := goodIn_app (goodIn_of _ (by decide +kernel)) ggX7_fits_X7_isRow
set_option maxRecDepth 20000 in
theorem ggX7_fits_X7_in : GoodIn wsX7_fits wsX7_in := goodIn_r _ [11] (by decide +kernel) (by decide +kernel)
set_option maxRecDepth 20000 in
theorem gX7_fits_X7_in : GoodIn wsX7_fits (va_wsS RX7 59 yX7_in wsX7_in) := goodIn_app (goodIn_of _ (by decide +kernel)) ggX7_fits_X7_in
set_option maxRecDepth 20000 in
theorem ggX7_fits_X7_isMissing : GoodIn wsX7_fits wsX7_isMissing := goodIn_r _ [18, 19, 2, 68, 69, 70, 71, 72, 73, 74, 75, 76, 77, 78, 79, 80, 81, 82, 83, 84, 85, 86, 87, 88, 89, 90, 91] (by decide +kernel) (by decide +kernel)
set_option maxRecDepth 20000 in
theorem gX7_fits_X7_isMissing : GoodIn wsX7_fits (wsV RX7 75 RX7 yX7_isMissing wsX7_isMissing) := goodIn_app (goodIn_of _ (by decide +kernel)) ggX7_fits_X7_isMissing
set_option maxRecDepth 20000 in
theorem ggX7_fits_X7_found : GoodIn wsX7_fits wsX7_found := goodIn_r _ [23, 24, 25, 68, 69, 70, 71, 72, 73, 74, 75, 76, 77, 78, 79, 80, 81, 82, 83, 84, 85, 86, 87, 88, 89, 90, 91] (by decide +kernel) (by decide +kernel)
set_option maxRecDepth 20000 in
theorem gX7_fits_X7_found : GoodIn wsX7_fits (wsV RX7 68 RX7 yX7_found wsX7_found) := goodIn_app (goodIn_of _ (by decide +kernel)) ggX7_fits_X7_found
set_option maxRecDepth 20000 in
theorem ggX7_fits_X7_isPart : GoodIn wsX7_fits wsX7_isPart := goodIn_r _ [29, 30, 68, 69, 70, 71, 72, 73, 74, 75, 76, 77, 78, 79, 80, 81, 82, 83, 84, 85, 86, 87, 88, 89, 90, 91] (by decide +kernel) (by decide +kernel)
set_option maxRecDepth 20000 in
theorem gX7_fits_X7_isPart : GoodIn wsX7_fits (wsV RX7 82 RX7 yX7_isPart wsX7_isPart) := goodIn_app (goodIn_of _ (by decide +kernel)) ggX7_fits_X7_isPart
set_option maxRecDepth 20000 in
theorem ggX7_fits_X7_shedsSo : GoodIn wsX7_fits wsX7_shedsSo := goodIn_r _ [34, 8, 35, 36, 37, 38, 6, 39, 40, 41, 42, 43, 44, 45, 46, 47, 48, 49, 50, 51, 2, 52, 53, 54, 55, 56, 57, 58, 59, 60, 61, 62, 63, 68, 69, 70, 71, 72, 73, 74, 75, 76, 77, 78, 79, 80, 81, 82, 83, 84, 85, 86, 87, 88, 89, 90, 91] (by decide +kernel) (by decide +kernel)
set_option maxRecDepth 20000 in
theorem gX7_fits_X7_shedsSo : GoodIn wsX7_fits (wsV RX7 208 RX7 yX7_shedsSo wsX7_shedsSo) := goodIn_app (goodIn_of _ (by decide +kernel)) ggX7_fits_X7_shedsSo
set_option maxRecDepth 20000 in
theorem ggX7_fits_X7_well : GoodIn wsX7_fits wsX7_well := goodIn_r _ [67, 24, 68, 69, 70, 71, 72, 73, 74, 75, 76, 77, 78, 79, 80, 81, 82, 83, 84, 85, 86, 87, 88, 89, 90, 91] (by decide +kernel) (by decide +kernel)
set_option maxRecDepth 20000 in
theorem gX7_fits_X7_well : GoodIn wsX7_fits (wsV RX7 72 RX7 yX7_well wsX7_well) := goodIn_app (goodIn_of _ (by decide +kernel)) ggX7_fits_X7_well
theorem dX7_fits_0 : decode cX7_fits 0 = .ok (.aload_n 0, 1) := by decide +kernel
theorem dX7_fits_1 : decode cX7_fits 1 = .ok (.iload_n 1, 1) := by decide +kernel
theorem dX7_fits_2 : decode cX7_fits 2 = .ok (.invokevirtual 177, 3) := by decide +kernel
theorem dX7_fits_5 : decode cX7_fits 5 = .ok (.ifCond .eq 31, 3) := by decide +kernel
theorem dX7_fits_8 : decode cX7_fits 8 = .ok (.iload_n 2, 1) := by decide +kernel
theorem dX7_fits_9 : decode cX7_fits 9 = .ok (.invokestatic 63, 3) := by decide +kernel
theorem dX7_fits_12 : decode cX7_fits 12 = .ok (.ifCond .eq 24, 3) := by decide +kernel
theorem dX7_fits_15 : decode cX7_fits 15 = .ok (.iload 4, 2) := by decide +kernel
theorem dX7_fits_17 : decode cX7_fits 17 = .ok (.iconst 1, 1) := by decide +kernel
theorem dX7_fits_18 : decode cX7_fits 18 = .ok (.bipush 12, 2) := by decide +kernel
theorem dX7_fits_20 : decode cX7_fits 20 = .ok (.invokestatic 59, 3) := by decide +kernel
theorem dX7_fits_23 : decode cX7_fits 23 = .ok (.ifCond .eq 13, 3) := by decide +kernel
theorem dX7_fits_26 : decode cX7_fits 26 = .ok (.iload 5, 2) := by decide +kernel
theorem dX7_fits_28 : decode cX7_fits 28 = .ok (.iconst 0, 1) := by decide +kernel
theorem dX7_fits_29 : decode cX7_fits 29 = .ok (.iconst 4, 1) := by decide +kernel
theorem dX7_fits_30 : decode cX7_fits 30 = .ok (.invokestatic 59, 3) := by decide +kernel
theorem dX7_fits_33 : decode cX7_fits 33 = .ok (.ifCond .ne 6, 3) := by decide +kernel
theorem dX7_fits_36 : decode cX7_fits 36 = .ok (.ldc 67, 2) := by decide +kernel
theorem dX7_fits_38 : decode cX7_fits 38 = .ok (.ireturn, 1) := by decide +kernel
theorem dX7_fits_39 : decode cX7_fits 39 = .ok (.aload_n 0, 1) := by decide +kernel
theorem dX7_fits_40 : decode cX7_fits 40 = .ok (.iload_n 2, 1) := by decide +kernel
theorem dX7_fits_41 : decode cX7_fits 41 = .ok (.invokevirtual 75, 3) := by decide +kernel
theorem dX7_fits_44 : decode cX7_fits 44 = .ok (.ifCond .eq 9, 3) := by decide +kernel
theorem dX7_fits_47 : decode cX7_fits 47 = .ok (.aload_n 0, 1) := by decide +kernel
theorem dX7_fits_48 : decode cX7_fits 48 = .ok (.iconst 1, 1) := by decide +kernel
theorem dX7_fits_49 : decode cX7_fits 49 = .ok (.invokevirtual 68, 3) := by decide +kernel
theorem dX7_fits_52 : decode cX7_fits 52 = .ok (.ireturn, 1) := by decide +kernel
theorem dX7_fits_53 : decode cX7_fits 53 = .ok (.aload_n 0, 1) := by decide +kernel
theorem dX7_fits_54 : decode cX7_fits 54 = .ok (.iload_n 2, 1) := by decide +kernel
theorem dX7_fits_55 : decode cX7_fits 55 = .ok (.iload_n 3, 1) := by decide +kernel
theorem dX7_fits_56 : decode cX7_fits 56 = .ok (.iload 4, 2) := by decide +kernel
theorem dX7_fits_58 : decode cX7_fits 58 = .ok (.invokevirtual 82, 3) := by decide +kernel
theorem dX7_fits_61 : decode cX7_fits 61 = .ok (.ifCond .ne 9, 3) := by decide +kernel
theorem dX7_fits_64 : decode cX7_fits 64 = .ok (.aload_n 0, 1) := by decide +kernel
theorem dX7_fits_65 : decode cX7_fits 65 = .ok (.iconst 2, 1) := by decide +kernel
theorem dX7_fits_66 : decode cX7_fits 66 = .ok (.invokevirtual 68, 3) := by decide +kernel
theorem dX7_fits_69 : decode cX7_fits 69 = .ok (.ireturn, 1) := by decide +kernel
theorem dX7_fits_70 : decode cX7_fits 70 = .ok (.bipush 40, 2) := by decide +kernel
theorem dX7_fits_72 : decode cX7_fits 72 = .ok (.iload_n 2, 1) := by decide +kernel
theorem dX7_fits_73 : decode cX7_fits 73 = .ok (.imul, 1) := by decide +kernel
theorem dX7_fits_74 : decode cX7_fits 74 = .ok (.iload_n 3, 1) := by decide +kernel
theorem dX7_fits_75 : decode cX7_fits 75 = .ok (.iadd, 1) := by decide +kernel
theorem dX7_fits_76 : decode cX7_fits 76 = .ok (.istore 6, 2) := by decide +kernel
theorem dX7_fits_78 : decode cX7_fits 78 = .ok (.bipush 6, 2) := by decide +kernel
theorem dX7_fits_80 : decode cX7_fits 80 = .ok (.bipush 7, 2) := by decide +kernel
theorem dX7_fits_82 : decode cX7_fits 82 = .ok (.iload_n 1, 1) := by decide +kernel
theorem dX7_fits_83 : decode cX7_fits 83 = .ok (.imul, 1) := by decide +kernel
theorem dX7_fits_84 : decode cX7_fits 84 = .ok (.iadd, 1) := by decide +kernel
theorem dX7_fits_85 : decode cX7_fits 85 = .ok (.istore 7, 2) := by decide +kernel
theorem dX7_fits_87 : decode cX7_fits 87 = .ok (.iconst 0, 1) := by decide +kernel
theorem dX7_fits_88 : decode cX7_fits 88 = .ok (.istore 8, 2) := by decide +kernel
theorem dX7_fits_90 : decode cX7_fits 90 = .ok (.iconst 0, 1) := by decide +kernel
theorem dX7_fits_91 : decode cX7_fits 91 = .ok (.istore 9, 2) := by decide +kernel
theorem dX7_fits_93 : decode cX7_fits 93 = .ok (.ldc 53, 2) := by decide +kernel
theorem dX7_fits_95 : decode cX7_fits 95 = .ok (.istore 10, 2) := by decide +kernel
theorem dX7_fits_97 : decode cX7_fits 97 = .ok (.iload 5, 2) := by decide +kernel
theorem dX7_fits_99 : decode cX7_fits 99 = .ok (.iconst 3, 1) := by decide +kernel
theorem dX7_fits_100 : decode cX7_fits 100 = .ok (.if_icmp .ge 101, 3) := by decide +kernel
theorem dX7_fits_103 : decode cX7_fits 103 = .ok (.iload 5, 2) := by decide +kernel
theorem dX7_fits_105 : decode cX7_fits 105 = .ok (.ifCond .ne 7, 3) := by decide +kernel
theorem dX7_fits_108 : decode cX7_fits 108 = .ok (.iconst 5, 1) := by decide +kernel
theorem dX7_fits_109 : decode cX7_fits 109 = .ok (.goto 16, 3) := by decide +kernel
theorem dX7_fits_112 : decode cX7_fits 112 = .ok (.iload 5, 2) := by decide +kernel
theorem dX7_fits_114 : decode cX7_fits 114 = .ok (.iconst 1, 1) := by decide +kernel
theorem dX7_fits_115 : decode cX7_fits 115 = .ok (.if_icmp .ne 8, 3) := by decide +kernel
theorem dX7_fits_118 : decode cX7_fits 118 = .ok (.bipush 9, 2) := by decide +kernel
theorem dX7_fits_120 : decode cX7_fits 120 = .ok (.goto 5, 3) := by decide +kernel
theorem dX7_fits_123 : decode cX7_fits 123 = .ok (.bipush 15, 2) := by decide +kernel
theorem dX7_fits_125 : decode cX7_fits 125 = .ok (.istore 11, 2) := by decide +kernel
theorem dX7_fits_127 : decode cX7_fits 127 = .ok (.iload 5, 2) := by decide +kernel
theorem dX7_fits_129 : decode cX7_fits 129 = .ok (.ifCond .ne 7, 3) := by decide +kernel
theorem dX7_fits_132 : decode cX7_fits 132 = .ok (.iconst 1, 1) := by decide +kernel
theorem dX7_fits_133 : decode cX7_fits 133 = .ok (.goto 4, 3) := by decide +kernel
theorem dX7_fits_136 : decode cX7_fits 136 = .ok (.iconst 0, 1) := by decide +kernel
theorem dX7_fits_137 : decode cX7_fits 137 = .ok (.istore 12, 2) := by decide +kernel
theorem dX7_fits_139 : decode cX7_fits 139 = .ok (.iload 12, 2) := by decide +kernel
theorem dX7_fits_141 : decode cX7_fits 141 = .ok (.iload 11, 2) := by decide +kernel
theorem dX7_fits_143 : decode cX7_fits 143 = .ok (.if_icmp .gt 51, 3) := by decide +kernel
theorem dX7_fits_146 : decode cX7_fits 146 = .ok (.iload 8, 2) := by decide +kernel
theorem dX7_fits_148 : decode cX7_fits 148 = .ok (.aload_n 0, 1) := by decide +kernel
theorem dX7_fits_149 : decode cX7_fits 149 = .ok (.iload_n 1, 1) := by decide +kernel
theorem dX7_fits_150 : decode cX7_fits 150 = .ok (.iload 6, 2) := by decide +kernel
theorem dX7_fits_152 : decode cX7_fits 152 = .ok (.iload 4, 2) := by decide +kernel
theorem dX7_fits_154 : decode cX7_fits 154 = .ok (.iload 5, 2) := by decide +kernel
theorem dX7_fits_156 : decode cX7_fits 156 = .ok (.iconst 2, 1) := by decide +kernel
theorem dX7_fits_157 : decode cX7_fits 157 = .ok (.if_icmp .ne 7, 3) := by decide +kernel
theorem dX7_fits_160 : decode cX7_fits 160 = .ok (.iconst 1, 1) := by decide +kernel
theorem dX7_fits_161 : decode cX7_fits 161 = .ok (.goto 8, 3) := by decide +kernel
theorem dX7_fits_164 : decode cX7_fits 164 = .ok (.iload 7, 2) := by decide +kernel
theorem dX7_fits_166 : decode cX7_fits 166 = .ok (.iload 5, 2) := by decide +kernel
theorem dX7_fits_168 : decode cX7_fits 168 = .ok (.iadd, 1) := by decide +kernel
theorem dX7_fits_169 : decode cX7_fits 169 = .ok (.iload 12, 2) := by decide +kernel
theorem dX7_fits_171 : decode cX7_fits 171 = .ok (.invokevirtual 208, 3) := by decide +kernel
theorem dX7_fits_174 : decode cX7_fits 174 = .ok (.ifCond .eq 10, 3) := by decide +kernel
theorem dX7_fits_177 : decode cX7_fits 177 = .ok (.iconst 1, 1) := by decide +kernel
theorem dX7_fits_178 : decode cX7_fits 178 = .ok (.iload 12, 2) := by decide +kernel
theorem dX7_fits_180 : decode cX7_fits 180 = .ok (.ishl, 1) := by decide +kernel
theorem dX7_fits_181 : decode cX7_fits 181 = .ok (.goto 4, 3) := by decide +kernel
theorem dX7_fits_184 : decode cX7_fits 184 = .ok (.iconst 0, 1) := by decide +kernel
theorem dX7_fits_185 : decode cX7_fits 185 = .ok (.ior, 1) := by decide +kernel
theorem dX7_fits_186 : decode cX7_fits 186 = .ok (.istore 8, 2) := by decide +kernel
theorem dX7_fits_188 : decode cX7_fits 188 = .ok (.iinc 12 1, 3) := by decide +kernel
theorem dX7_fits_191 : decode cX7_fits 191 = .ok (.goto (-52), 3) := by decide +kernel
theorem dX7_fits_194 : decode cX7_fits 194 = .ok (.aload_n 0, 1) := by decide +kernel
theorem dX7_fits_195 : decode cX7_fits 195 = .ok (.iload 8, 2) := by decide +kernel
theorem dX7_fits_197 : decode cX7_fits 197 = .ok (.invokevirtual 72, 3) := by decide +kernel
theorem dX7_fits_200 : decode cX7_fits 200 = .ok (.ireturn, 1) := by decide +kernel
theorem dX7_fits_201 : decode cX7_fits 201 = .ok (.bipush 99, 2) := by decide +kernel
theorem dX7_fits_203 : decode cX7_fits 203 = .ok (.istore 11, 2) := by decide +kernel
theorem dX7_fits_205 : decode cX7_fits 205 = .ok (.iload 11, 2) := by decide +kernel
theorem dX7_fits_207 : decode cX7_fits 207 = .ok (.ifCond .lt 55, 3) := by decide +kernel
theorem dX7_fits_210 : decode cX7_fits 210 = .ok (.aload_n 0, 1) := by decide +kernel
theorem dX7_fits_211 : decode cX7_fits 211 = .ok (.iload_n 1, 1) := by decide +kernel
theorem dX7_fits_212 : decode cX7_fits 212 = .ok (.iload 6, 2) := by decide +kernel
theorem dX7_fits_214 : decode cX7_fits 214 = .ok (.iload 4, 2) := by decide +kernel
theorem dX7_fits_216 : decode cX7_fits 216 = .ok (.iload 7, 2) := by decide +kernel
theorem dX7_fits_218 : decode cX7_fits 218 = .ok (.iconst 2, 1) := by decide +kernel
theorem dX7_fits_219 : decode cX7_fits 219 = .ok (.iadd, 1) := by decide +kernel
theorem dX7_fits_220 : decode cX7_fits 220 = .ok (.iload 11, 2) := by decide +kernel
theorem dX7_fits_222 : decode cX7_fits 222 = .ok (.invokevirtual 208, 3) := by decide +kernel
theorem dX7_fits_225 : decode cX7_fits 225 = .ok (.istore 12, 2) := by decide +kernel
theorem dX7_fits_227 : decode cX7_fits 227 = .ok (.iload 9, 2) := by decide +kernel
theorem dX7_fits_229 : decode cX7_fits 229 = .ok (.iload 12, 2) := by decide +kernel
theorem dX7_fits_231 : decode cX7_fits 231 = .ok (.ifCond .eq 7, 3) := by decide +kernel
theorem dX7_fits_234 : decode cX7_fits 234 = .ok (.iconst 1, 1) := by decide +kernel
theorem dX7_fits_235 : decode cX7_fits 235 = .ok (.goto 4, 3) := by decide +kernel
theorem dX7_fits_238 : decode cX7_fits 238 = .ok (.iconst 0, 1) := by decide +kernel
theorem dX7_fits_239 : decode cX7_fits 239 = .ok (.iadd, 1) := by decide +kernel
theorem dX7_fits_240 : decode cX7_fits 240 = .ok (.istore 9, 2) := by decide +kernel
theorem dX7_fits_242 : decode cX7_fits 242 = .ok (.iload 12, 2) := by decide +kernel
theorem dX7_fits_244 : decode cX7_fits 244 = .ok (.ifCond .eq 8, 3) := by decide +kernel
theorem dX7_fits_247 : decode cX7_fits 247 = .ok (.iload 11, 2) := by decide +kernel
theorem dX7_fits_249 : decode cX7_fits 249 = .ok (.goto 5, 3) := by decide +kernel
theorem dX7_fits_252 : decode cX7_fits 252 = .ok (.iload 10, 2) := by decide +kernel
theorem dX7_fits_254 : decode cX7_fits 254 = .ok (.istore 10, 2) := by decide +kernel
theorem dX7_fits_256 : decode cX7_fits 256 = .ok (.iinc 11 (-1), 3) := by decide +kernel
theorem dX7_fits_259 : decode cX7_fits 259 = .ok (.goto (-54), 3) := by decide +kernel
theorem dX7_fits_262 : decode cX7_fits 262 = .ok (.aload_n 0, 1) := by decide +kernel
theorem dX7_fits_263 : decode cX7_fits 263 = .ok (.iload 5, 2) := by decide +kernel
theorem dX7_fits_265 : decode cX7_fits 265 = .ok (.iconst 3, 1) := by decide +kernel
theorem dX7_fits_266 : decode cX7_fits 266 = .ok (.if_icmp .ne 8, 3) := by decide +kernel
theorem dX7_fits_269 : decode cX7_fits 269 = .ok (.iload 9, 2) := by decide +kernel
theorem dX7_fits_271 : decode cX7_fits 271 = .ok (.goto 5, 3) := by decide +kernel
theorem dX7_fits_274 : decode cX7_fits 274 = .ok (.iload 10, 2) := by decide +kernel
theorem dX7_fits_276 : decode cX7_fits 276 = .ok (.invokevirtual 72, 3) := by decide +kernel
theorem dX7_fits_279 : decode cX7_fits 279 = .ok (.ireturn, 1) := by decide +kernel
set_option maxRecDepth 20000 in
theorem ggX7_away_X7_isWedding : GoodIn wsX7_away wsX7_isWedding := goodIn_r _ [9, 3, 59, 60, 61, 62, 63, 64, 65, 66, 67, 68, 69, 70, 71, 72, 73, 74, 75, 76, 77, 78, 79, 80, 81, 82] (by decide +kernel) (by decide +kernel)
set_option maxRecDepth 20000 in
theorem gX7_away_X7_isWedding : GoodIn wsX7_away (wsV RX7 166 RX7 yX7_isWedding wsX7_isWedding) := goodIn_app (goodIn_of _ (by decide +kernel)) ggX7_away_X7_isWedding
set_option maxRecDepth 20000 in
theorem ggX7_away_X7_in : GoodIn wsX7_away wsX7_in := goodIn_r _ [12] (by decide +kernel) (by decide +kernel)
set_option maxRecDepth 20000 in
theorem gX7_away_X7_in : GoodIn wsX7_away (va_wsS RX7 59 yX7_in wsX7_in) := goodIn_app (goodIn_of _ (by decide +kernel)) ggX7_away_X7_in
set_option maxRecDepth 20000 in
theorem ggX7_away_X7_hired : GoodIn wsX7_away wsX7_hired := goodIn_r _ [16, 3, 59, 60, 61, 62, 63, 64, 65, 66, 67, 68, 69, 70, 71, 72, 73, 74, 75, 76, 77, 78, 79, 80, 81, 82] (by decide +kernel) (by decide +kernel)
set_option maxRecDepth 20000 in
theorem gX7_away_X7_hired : GoodIn wsX7_away (wsV RX7 184 RX7 yX7_hired wsX7_hired) := goodIn_app (goodIn_of _ (by decide +kernel)) ggX7_away_X7_hired
set_option maxRecDepth 20000 in
theorem ggX7_away_X7_ones : GoodIn wsX7_away wsX7_ones := goodIn_r _ [19] (by decide +kernel) (by decide +kernel)
set_option maxRecDepth 20000 in
theorem gX7_away_X7_ones : GoodIn wsX7_away (va_wsS RX7 198 yX7_ones wsX7_ones) := goodIn_app (goodIn_of _ (by decide +kernel)) ggX7_away_X7_ones
set_option maxRecDepth 20000 in
theorem ggX7_away_X7_has : GoodIn wsX7_away wsX7_has := goodIn_r _ [22] (by decide +kernel) (by decide +kernel)
set_option maxRecDepth 20000 in
theorem gX7_away_X7_has : GoodIn wsX7_away (va_wsS RX7 152 yX7_has wsX7_has) := goodIn_app (goodIn_of _ (by decide +kernel)) ggX7_away_X7_has
set_option maxRecDepth 20000 in
theorem ggX7_away_X7_triesBy : GoodIn wsX7_away wsX7_triesBy := goodIn_r _ [26, 3, 4, 27, 28, 8, 29, 30, 31, 32, 59, 60, 61, 62, 63, 64, 65, 66, 67, 68, 69, 70, 71, 72, 73, 74, 75, 76, 77, 78, 79, 80, 81, 82] (by decide +kernel) (by decide +kernel)
set_option maxRecDepth 20000 in
theorem gX7_away_X7_triesBy : GoodIn wsX7_away (wsV RX7 195 RX7 yX7_triesBy wsX7_triesBy) := goodIn_app (goodIn_of _ (by decide +kernel)) ggX7_away_X7_triesBy
set_option maxRecDepth 20000 in
theorem ggX7_away_X7_goesOn : GoodIn wsX7_away wsX7_goesOn := goodIn_r _ [36, 4, 37, 38, 39, 8, 40, 41, 42, 43, 44, 45, 46, 47, 48, 49, 50, 51, 52, 20, 21, 22, 53, 54, 55, 56, 57, 58, 59, 60, 61, 62, 63, 64, 65, 66, 67, 68, 69, 70, 71, 72, 73, 74, 75, 76, 77, 78, 79, 80, 81, 82] (by decide +kernel) (by decide +kernel)
set_option maxRecDepth 20000 in
theorem gX7_away_X7_goesOn : GoodIn wsX7_away (wsV RX7 191 RX7 yX7_goesOn wsX7_goesOn) := goodIn_app (goodIn_of _ (by decide +kernel)) ggX7_away_X7_goesOn
theorem dX7_away_0 : decode cX7_away 0 = .ok (.aload_n 0, 1) := by decide +kernel
theorem dX7_away_1 : decode cX7_away 1 = .ok (.invokevirtual 166, 3) := by decide +kernel
theorem dX7_away_4 : decode cX7_away 4 = .ok (.ifCond .ne 6, 3) := by decide +kernel
theorem dX7_away_7 : decode cX7_away 7 = .ok (.ldc 169, 2) := by decide +kernel
theorem dX7_away_9 : decode cX7_away 9 = .ok (.ireturn, 1) := by decide +kernel
theorem dX7_away_10 : decode cX7_away 10 = .ok (.iload_n 1, 1) := by decide +kernel
theorem dX7_away_11 : decode cX7_away 11 = .ok (.iconst 0, 1) := by decide +kernel
theorem dX7_away_12 : decode cX7_away 12 = .ok (.bipush 30, 2) := by decide +kernel
theorem dX7_away_14 : decode cX7_away 14 = .ok (.invokestatic 59, 3) := by decide +kernel
theorem dX7_away_17 : decode cX7_away 17 = .ok (.ifCond .eq 22, 3) := by decide +kernel
theorem dX7_away_20 : decode cX7_away 20 = .ok (.iload_n 2, 1) := by decide +kernel
theorem dX7_away_21 : decode cX7_away 21 = .ok (.iconst 0, 1) := by decide +kernel
theorem dX7_away_22 : decode cX7_away 22 = .ok (.bipush 10, 2) := by decide +kernel
theorem dX7_away_24 : decode cX7_away 24 = .ok (.invokestatic 59, 3) := by decide +kernel
theorem dX7_away_27 : decode cX7_away 27 = .ok (.ifCond .eq 12, 3) := by decide +kernel
theorem dX7_away_30 : decode cX7_away 30 = .ok (.iload_n 3, 1) := by decide +kernel
theorem dX7_away_31 : decode cX7_away 31 = .ok (.iconst 0, 1) := by decide +kernel
theorem dX7_away_32 : decode cX7_away 32 = .ok (.iconst 1, 1) := by decide +kernel
theorem dX7_away_33 : decode cX7_away 33 = .ok (.invokestatic 59, 3) := by decide +kernel
theorem dX7_away_36 : decode cX7_away 36 = .ok (.ifCond .ne 6, 3) := by decide +kernel
theorem dX7_away_39 : decode cX7_away 39 = .ok (.ldc 67, 2) := by decide +kernel
theorem dX7_away_41 : decode cX7_away 41 = .ok (.ireturn, 1) := by decide +kernel
theorem dX7_away_42 : decode cX7_away 42 = .ok (.aload_n 0, 1) := by decide +kernel
theorem dX7_away_43 : decode cX7_away 43 = .ok (.invokevirtual 184, 3) := by decide +kernel
theorem dX7_away_46 : decode cX7_away 46 = .ok (.istore 4, 2) := by decide +kernel
theorem dX7_away_48 : decode cX7_away 48 = .ok (.iconst 0, 1) := by decide +kernel
theorem dX7_away_49 : decode cX7_away 49 = .ok (.istore 5, 2) := by decide +kernel
theorem dX7_away_51 : decode cX7_away 51 = .ok (.iconst 1, 1) := by decide +kernel
theorem dX7_away_52 : decode cX7_away 52 = .ok (.istore 6, 2) := by decide +kernel
theorem dX7_away_54 : decode cX7_away 54 = .ok (.iconst 0, 1) := by decide +kernel
theorem dX7_away_55 : decode cX7_away 55 = .ok (.istore 7, 2) := by decide +kernel
theorem dX7_away_57 : decode cX7_away 57 = .ok (.iload 7, 2) := by decide +kernel
theorem dX7_away_59 : decode cX7_away 59 = .ok (.iload 4, 2) := by decide +kernel
theorem dX7_away_61 : decode cX7_away 61 = .ok (.invokestatic 198, 3) := by decide +kernel
theorem dX7_away_64 : decode cX7_away 64 = .ok (.if_icmp .ge 16, 3) := by decide +kernel
theorem dX7_away_67 : decode cX7_away 67 = .ok (.iload 6, 2) := by decide +kernel
theorem dX7_away_69 : decode cX7_away 69 = .ok (.bipush 10, 2) := by decide +kernel
theorem dX7_away_71 : decode cX7_away 71 = .ok (.imul, 1) := by decide +kernel
theorem dX7_away_72 : decode cX7_away 72 = .ok (.istore 6, 2) := by decide +kernel
theorem dX7_away_74 : decode cX7_away 74 = .ok (.iinc 7 1, 3) := by decide +kernel
theorem dX7_away_77 : decode cX7_away 77 = .ok (.goto (-20), 3) := by decide +kernel
theorem dX7_away_80 : decode cX7_away 80 = .ok (.iconst 0, 1) := by decide +kernel
theorem dX7_away_81 : decode cX7_away 81 = .ok (.istore 7, 2) := by decide +kernel
theorem dX7_away_83 : decode cX7_away 83 = .ok (.iload 7, 2) := by decide +kernel
theorem dX7_away_85 : decode cX7_away 85 = .ok (.iload 4, 2) := by decide +kernel
theorem dX7_away_87 : decode cX7_away 87 = .ok (.if_icmp .gt 121, 3) := by decide +kernel
theorem dX7_away_90 : decode cX7_away 90 = .ok (.iload 7, 2) := by decide +kernel
theorem dX7_away_92 : decode cX7_away 92 = .ok (.iload 4, 2) := by decide +kernel
theorem dX7_away_94 : decode cX7_away 94 = .ok (.iconst (-1), 1) := by decide +kernel
theorem dX7_away_95 : decode cX7_away 95 = .ok (.ixor, 1) := by decide +kernel
theorem dX7_away_96 : decode cX7_away 96 = .ok (.iand, 1) := by decide +kernel
theorem dX7_away_97 : decode cX7_away 97 = .ok (.ifCond .ne 105, 3) := by decide +kernel
theorem dX7_away_100 : decode cX7_away 100 = .ok (.iconst 1, 1) := by decide +kernel
theorem dX7_away_101 : decode cX7_away 101 = .ok (.istore 8, 2) := by decide +kernel
theorem dX7_away_103 : decode cX7_away 103 = .ok (.iconst 0, 1) := by decide +kernel
theorem dX7_away_104 : decode cX7_away 104 = .ok (.istore 9, 2) := by decide +kernel
theorem dX7_away_106 : decode cX7_away 106 = .ok (.iload 9, 2) := by decide +kernel
theorem dX7_away_108 : decode cX7_away 108 = .ok (.aload_n 0, 1) := by decide +kernel
theorem dX7_away_109 : decode cX7_away 109 = .ok (.getfield 25, 3) := by decide +kernel
theorem dX7_away_112 : decode cX7_away 112 = .ok (.iconst 2, 1) := by decide +kernel
theorem dX7_away_113 : decode cX7_away 113 = .ok (.iaload, 1) := by decide +kernel
theorem dX7_away_114 : decode cX7_away 114 = .ok (.if_icmp .ge 46, 3) := by decide +kernel
theorem dX7_away_117 : decode cX7_away 117 = .ok (.iload 8, 2) := by decide +kernel
theorem dX7_away_119 : decode cX7_away 119 = .ok (.iload 4, 2) := by decide +kernel
theorem dX7_away_121 : decode cX7_away 121 = .ok (.iload 9, 2) := by decide +kernel
theorem dX7_away_123 : decode cX7_away 123 = .ok (.invokestatic 152, 3) := by decide +kernel
theorem dX7_away_126 : decode cX7_away 126 = .ok (.ifCond .ne 7, 3) := by decide +kernel
theorem dX7_away_129 : decode cX7_away 129 = .ok (.iconst 1, 1) := by decide +kernel
theorem dX7_away_130 : decode cX7_away 130 = .ok (.goto 21, 3) := by decide +kernel
theorem dX7_away_133 : decode cX7_away 133 = .ok (.iload 7, 2) := by decide +kernel
theorem dX7_away_135 : decode cX7_away 135 = .ok (.iload 9, 2) := by decide +kernel
theorem dX7_away_137 : decode cX7_away 137 = .ok (.invokestatic 152, 3) := by decide +kernel
theorem dX7_away_140 : decode cX7_away 140 = .ok (.ifCond .eq 7, 3) := by decide +kernel
theorem dX7_away_143 : decode cX7_away 143 = .ok (.iload_n 2, 1) := by decide +kernel
theorem dX7_away_144 : decode cX7_away 144 = .ok (.goto 7, 3) := by decide +kernel
theorem dX7_away_147 : decode cX7_away 147 = .ok (.bipush 10, 2) := by decide +kernel
theorem dX7_away_149 : decode cX7_away 149 = .ok (.iload_n 2, 1) := by decide +kernel
theorem dX7_away_150 : decode cX7_away 150 = .ok (.isub, 1) := by decide +kernel
theorem dX7_away_151 : decode cX7_away 151 = .ok (.imul, 1) := by decide +kernel
theorem dX7_away_152 : decode cX7_away 152 = .ok (.istore 8, 2) := by decide +kernel
theorem dX7_away_154 : decode cX7_away 154 = .ok (.iinc 9 1, 3) := by decide +kernel
theorem dX7_away_157 : decode cX7_away 157 = .ok (.goto (-51), 3) := by decide +kernel
theorem dX7_away_160 : decode cX7_away 160 = .ok (.aload_n 0, 1) := by decide +kernel
theorem dX7_away_161 : decode cX7_away 161 = .ok (.iload 4, 2) := by decide +kernel
theorem dX7_away_163 : decode cX7_away 163 = .ok (.iload 7, 2) := by decide +kernel
theorem dX7_away_165 : decode cX7_away 165 = .ok (.iconst (-1), 1) := by decide +kernel
theorem dX7_away_166 : decode cX7_away 166 = .ok (.ixor, 1) := by decide +kernel
theorem dX7_away_167 : decode cX7_away 167 = .ok (.iand, 1) := by decide +kernel
theorem dX7_away_168 : decode cX7_away 168 = .ok (.invokevirtual 195, 3) := by decide +kernel
theorem dX7_away_171 : decode cX7_away 171 = .ok (.aload_n 0, 1) := by decide +kernel
theorem dX7_away_172 : decode cX7_away 172 = .ok (.iload_n 1, 1) := by decide +kernel
theorem dX7_away_173 : decode cX7_away 173 = .ok (.invokevirtual 191, 3) := by decide +kernel
theorem dX7_away_176 : decode cX7_away 176 = .ok (.iload 5, 2) := by decide +kernel
theorem dX7_away_178 : decode cX7_away 178 = .ok (.aload_n 0, 1) := by decide +kernel
theorem dX7_away_179 : decode cX7_away 179 = .ok (.getfield 31, 3) := by decide +kernel
theorem dX7_away_182 : decode cX7_away 182 = .ok (.iconst 4, 1) := by decide +kernel
theorem dX7_away_183 : decode cX7_away 183 = .ok (.iaload, 1) := by decide +kernel
theorem dX7_away_184 : decode cX7_away 184 = .ok (.aload_n 0, 1) := by decide +kernel
theorem dX7_away_185 : decode cX7_away 185 = .ok (.getfield 31, 3) := by decide +kernel
theorem dX7_away_188 : decode cX7_away 188 = .ok (.iconst 0, 1) := by decide +kernel
theorem dX7_away_189 : decode cX7_away 189 = .ok (.iaload, 1) := by decide +kernel
theorem dX7_away_190 : decode cX7_away 190 = .ok (.if_icmp .lt 8, 3) := by decide +kernel
theorem dX7_away_193 : decode cX7_away 193 = .ok (.iload 8, 2) := by decide +kernel
theorem dX7_away_195 : decode cX7_away 195 = .ok (.goto 4, 3) := by decide +kernel
theorem dX7_away_198 : decode cX7_away 198 = .ok (.iconst 0, 1) := by decide +kernel
theorem dX7_away_199 : decode cX7_away 199 = .ok (.iadd, 1) := by decide +kernel
theorem dX7_away_200 : decode cX7_away 200 = .ok (.istore 5, 2) := by decide +kernel
theorem dX7_away_202 : decode cX7_away 202 = .ok (.iinc 7 1, 3) := by decide +kernel
theorem dX7_away_205 : decode cX7_away 205 = .ok (.goto (-122), 3) := by decide +kernel
theorem dX7_away_208 : decode cX7_away 208 = .ok (.iload 5, 2) := by decide +kernel
theorem dX7_away_210 : decode cX7_away 210 = .ok (.istore 7, 2) := by decide +kernel
theorem dX7_away_212 : decode cX7_away 212 = .ok (.iload 6, 2) := by decide +kernel
theorem dX7_away_214 : decode cX7_away 214 = .ok (.istore 8, 2) := by decide +kernel
theorem dX7_away_216 : decode cX7_away 216 = .ok (.iload 8, 2) := by decide +kernel
theorem dX7_away_218 : decode cX7_away 218 = .ok (.ifCond .eq 21, 3) := by decide +kernel
theorem dX7_away_221 : decode cX7_away 221 = .ok (.iload 7, 2) := by decide +kernel
theorem dX7_away_223 : decode cX7_away 223 = .ok (.iload 8, 2) := by decide +kernel
theorem dX7_away_225 : decode cX7_away 225 = .ok (.irem, 1) := by decide +kernel
theorem dX7_away_226 : decode cX7_away 226 = .ok (.istore 9, 2) := by decide +kernel
theorem dX7_away_228 : decode cX7_away 228 = .ok (.iload 8, 2) := by decide +kernel
theorem dX7_away_230 : decode cX7_away 230 = .ok (.istore 7, 2) := by decide +kernel
theorem dX7_away_232 : decode cX7_away 232 = .ok (.iload 9, 2) := by decide +kernel
theorem dX7_away_234 : decode cX7_away 234 = .ok (.istore 8, 2) := by decide +kernel
theorem dX7_away_236 : decode cX7_away 236 = .ok (.goto (-20), 3) := by decide +kernel
theorem dX7_away_239 : decode cX7_away 239 = .ok (.iload_n 3, 1) := by decide +kernel
theorem dX7_away_240 : decode cX7_away 240 = .ok (.ifCond .ne 8, 3) := by decide +kernel
theorem dX7_away_243 : decode cX7_away 243 = .ok (.iload 5, 2) := by decide +kernel
theorem dX7_away_245 : decode cX7_away 245 = .ok (.goto 5, 3) := by decide +kernel
theorem dX7_away_248 : decode cX7_away 248 = .ok (.iload 6, 2) := by decide +kernel
theorem dX7_away_250 : decode cX7_away 250 = .ok (.iload 7, 2) := by decide +kernel
theorem dX7_away_252 : decode cX7_away 252 = .ok (.idiv, 1) := by decide +kernel
theorem dX7_away_253 : decode cX7_away 253 = .ok (.ireturn, 1) := by decide +kernel
set_option maxRecDepth 20000 in
theorem ggX7_drawn_X7_isWedding : GoodIn wsX7_drawn wsX7_isWedding := goodIn_r _ [13, 4, 51, 52, 53, 54, 55, 56, 57, 58, 59, 60, 61, 62, 63, 64, 65, 66, 67, 68, 69, 70, 71, 72, 73, 74] (by decide +kernel) (by decide +kernel)
set_option maxRecDepth 20000 in
theorem gX7_drawn_X7_isWedding : GoodIn wsX7_drawn (wsV RX7 166 RX7 yX7_isWedding wsX7_isWedding) := goodIn_app (goodIn_of _ (by decide +kernel)) ggX7_drawn_X7_isWedding
set_option maxRecDepth 20000 in
theorem ggX7_drawn_X7_in : GoodIn wsX7_drawn wsX7_in := goodIn_r _ [16] (by decide +kernel) (by decide +kernel)
set_option maxRecDepth 20000 in
theorem gX7_drawn_X7_in : GoodIn wsX7_drawn (va_wsS RX7 59 yX7_in wsX7_in) := goodIn_app (goodIn_of _ (by decide +kernel)) ggX7_drawn_X7_in
set_option maxRecDepth 20000 in
theorem ggX7_drawn_X7_copies : GoodIn wsX7_drawn wsX7_copies := goodIn_r _ [19] (by decide +kernel) (by decide +kernel)
set_option maxRecDepth 20000 in
theorem gX7_drawn_X7_copies : GoodIn wsX7_drawn (va_wsS RX7 138 yX7_copies wsX7_copies) := goodIn_app (goodIn_of _ (by decide +kernel)) ggX7_drawn_X7_copies
set_option maxRecDepth 20000 in
theorem ggX7_drawn_X7_hires : GoodIn wsX7_drawn wsX7_hires := goodIn_r _ [22] (by decide +kernel) (by decide +kernel)
set_option maxRecDepth 20000 in
theorem gX7_drawn_X7_hires : GoodIn wsX7_drawn (va_wsS RX7 180 yX7_hires wsX7_hires) := goodIn_app (goodIn_of _ (by decide +kernel)) ggX7_drawn_X7_hires
set_option maxRecDepth 20000 in
theorem ggX7_drawn_X7_inSeat : GoodIn wsX7_drawn wsX7_inSeat := goodIn_r _ [25, 26] (by decide +kernel) (by decide +kernel)
set_option maxRecDepth 20000 in
theorem gX7_drawn_X7_inSeat : GoodIn wsX7_drawn (va_wsS RX7 145 yX7_inSeat wsX7_inSeat) := goodIn_app (goodIn_of _ (by decide +kernel)) ggX7_drawn_X7_inSeat
set_option maxRecDepth 20000 in
theorem ggX7_drawn_X7_changes : GoodIn wsX7_drawn wsX7_changes := goodIn_r _ [29] (by decide +kernel) (by decide +kernel)
set_option maxRecDepth 20000 in
theorem gX7_drawn_X7_changes : GoodIn wsX7_drawn (va_wsS RX7 188 yX7_changes wsX7_changes) := goodIn_app (goodIn_of _ (by decide +kernel)) ggX7_drawn_X7_changes
set_option maxRecDepth 20000 in
theorem ggX7_drawn_X7_passes : GoodIn wsX7_drawn wsX7_passes := goodIn_r _ [33, 34, 35, 36, 37, 12, 38, 39, 40, 41, 26, 23, 24, 25, 42, 43, 44, 45, 46, 47, 48, 49, 50, 51, 52, 53, 54, 55, 56, 57, 58, 59, 60, 61, 62, 63, 64, 65, 66, 67, 68, 69, 70, 71, 72, 73, 74] (by decide +kernel) (by decide +kernel)
set_option maxRecDepth 20000 in
theorem gX7_drawn_X7_passes : GoodIn wsX7_drawn (wsV RX7 173 RX7 yX7_passes wsX7_passes) := goodIn_app (goodIn_of _ (by decide +kernel)) ggX7_drawn_X7_passes
theorem dX7_drawn_0 : decode cX7_drawn 0 = .ok (.aload_n 0, 1) := by decide +kernel
theorem dX7_drawn_1 : decode cX7_drawn 1 = .ok (.invokevirtual 166, 3) := by decide +kernel
theorem dX7_drawn_4 : decode cX7_drawn 4 = .ok (.ifCond .ne 6, 3) := by decide +kernel
theorem dX7_drawn_7 : decode cX7_drawn 7 = .ok (.ldc 169, 2) := by decide +kernel
theorem dX7_drawn_9 : decode cX7_drawn 9 = .ok (.ireturn, 1) := by decide +kernel
theorem dX7_drawn_10 : decode cX7_drawn 10 = .ok (.iload_n 1, 1) := by decide +kernel
theorem dX7_drawn_11 : decode cX7_drawn 11 = .ok (.iconst 0, 1) := by decide +kernel
theorem dX7_drawn_12 : decode cX7_drawn 12 = .ok (.bipush 60, 2) := by decide +kernel
theorem dX7_drawn_14 : decode cX7_drawn 14 = .ok (.invokestatic 59, 3) := by decide +kernel
theorem dX7_drawn_17 : decode cX7_drawn 17 = .ok (.ifCond .eq 22, 3) := by decide +kernel
theorem dX7_drawn_20 : decode cX7_drawn 20 = .ok (.iload_n 2, 1) := by decide +kernel
theorem dX7_drawn_21 : decode cX7_drawn 21 = .ok (.iconst 1, 1) := by decide +kernel
theorem dX7_drawn_22 : decode cX7_drawn 22 = .ok (.ldc 212, 2) := by decide +kernel
theorem dX7_drawn_24 : decode cX7_drawn 24 = .ok (.invokestatic 59, 3) := by decide +kernel
theorem dX7_drawn_27 : decode cX7_drawn 27 = .ok (.ifCond .eq 12, 3) := by decide +kernel
theorem dX7_drawn_30 : decode cX7_drawn 30 = .ok (.iload_n 3, 1) := by decide +kernel
theorem dX7_drawn_31 : decode cX7_drawn 31 = .ok (.iconst 0, 1) := by decide +kernel
theorem dX7_drawn_32 : decode cX7_drawn 32 = .ok (.iconst 1, 1) := by decide +kernel
theorem dX7_drawn_33 : decode cX7_drawn 33 = .ok (.invokestatic 59, 3) := by decide +kernel
theorem dX7_drawn_36 : decode cX7_drawn 36 = .ok (.ifCond .ne 6, 3) := by decide +kernel
theorem dX7_drawn_39 : decode cX7_drawn 39 = .ok (.ldc 67, 2) := by decide +kernel
theorem dX7_drawn_41 : decode cX7_drawn 41 = .ok (.ireturn, 1) := by decide +kernel
theorem dX7_drawn_42 : decode cX7_drawn 42 = .ok (.aload_n 0, 1) := by decide +kernel
theorem dX7_drawn_43 : decode cX7_drawn 43 = .ok (.getfield 25, 3) := by decide +kernel
theorem dX7_drawn_46 : decode cX7_drawn 46 = .ok (.iconst 0, 1) := by decide +kernel
theorem dX7_drawn_47 : decode cX7_drawn 47 = .ok (.aload_n 0, 1) := by decide +kernel
theorem dX7_drawn_48 : decode cX7_drawn 48 = .ok (.getfield 31, 3) := by decide +kernel
theorem dX7_drawn_51 : decode cX7_drawn 51 = .ok (.iconst 0, 1) := by decide +kernel
theorem dX7_drawn_52 : decode cX7_drawn 52 = .ok (.invokestatic 138, 3) := by decide +kernel
theorem dX7_drawn_55 : decode cX7_drawn 55 = .ok (.iload_n 2, 1) := by decide +kernel
theorem dX7_drawn_56 : decode cX7_drawn 56 = .ok (.i2l, 1) := by decide +kernel
theorem dX7_drawn_57 : decode cX7_drawn 57 = .ok (.lstore 4, 2) := by decide +kernel
theorem dX7_drawn_59 : decode cX7_drawn 59 = .ok (.iconst 0, 1) := by decide +kernel
theorem dX7_drawn_60 : decode cX7_drawn 60 = .ok (.istore 6, 2) := by decide +kernel
theorem dX7_drawn_62 : decode cX7_drawn 62 = .ok (.iload 6, 2) := by decide +kernel
theorem dX7_drawn_64 : decode cX7_drawn 64 = .ok (.iload_n 1, 1) := by decide +kernel
theorem dX7_drawn_65 : decode cX7_drawn 65 = .ok (.if_icmp .ge 117, 3) := by decide +kernel
theorem dX7_drawn_68 : decode cX7_drawn 68 = .ok (.lload 4, 2) := by decide +kernel
theorem dX7_drawn_70 : decode cX7_drawn 70 = .ok (.ldc2_w 213, 3) := by decide +kernel
theorem dX7_drawn_73 : decode cX7_drawn 73 = .ok (.lmul, 1) := by decide +kernel
theorem dX7_drawn_74 : decode cX7_drawn 74 = .ok (.ldc2_w 215, 3) := by decide +kernel
theorem dX7_drawn_77 : decode cX7_drawn 77 = .ok (.lrem, 1) := by decide +kernel
theorem dX7_drawn_78 : decode cX7_drawn 78 = .ok (.lstore 4, 2) := by decide +kernel
theorem dX7_drawn_80 : decode cX7_drawn 80 = .ok (.lload 4, 2) := by decide +kernel
theorem dX7_drawn_82 : decode cX7_drawn 82 = .ok (.aload_n 0, 1) := by decide +kernel
theorem dX7_drawn_83 : decode cX7_drawn 83 = .ok (.getfield 25, 3) := by decide +kernel
theorem dX7_drawn_86 : decode cX7_drawn 86 = .ok (.iconst 2, 1) := by decide +kernel
theorem dX7_drawn_87 : decode cX7_drawn 87 = .ok (.iaload, 1) := by decide +kernel
theorem dX7_drawn_88 : decode cX7_drawn 88 = .ok (.i2l, 1) := by decide +kernel
theorem dX7_drawn_89 : decode cX7_drawn 89 = .ok (.lrem, 1) := by decide +kernel
theorem dX7_drawn_90 : decode cX7_drawn 90 = .ok (.l2i, 1) := by decide +kernel
theorem dX7_drawn_91 : decode cX7_drawn 91 = .ok (.istore 7, 2) := by decide +kernel
theorem dX7_drawn_93 : decode cX7_drawn 93 = .ok (.aload_n 0, 1) := by decide +kernel
theorem dX7_drawn_94 : decode cX7_drawn 94 = .ok (.getfield 31, 3) := by decide +kernel
theorem dX7_drawn_97 : decode cX7_drawn 97 = .ok (.iload 7, 2) := by decide +kernel
theorem dX7_drawn_99 : decode cX7_drawn 99 = .ok (.iconst 1, 1) := by decide +kernel
theorem dX7_drawn_100 : decode cX7_drawn 100 = .ok (.aload_n 0, 1) := by decide +kernel
theorem dX7_drawn_101 : decode cX7_drawn 101 = .ok (.getfield 31, 3) := by decide +kernel
theorem dX7_drawn_104 : decode cX7_drawn 104 = .ok (.bipush 6, 2) := by decide +kernel
theorem dX7_drawn_106 : decode cX7_drawn 106 = .ok (.bipush 7, 2) := by decide +kernel
theorem dX7_drawn_108 : decode cX7_drawn 108 = .ok (.iload 7, 2) := by decide +kernel
theorem dX7_drawn_110 : decode cX7_drawn 110 = .ok (.imul, 1) := by decide +kernel
theorem dX7_drawn_111 : decode cX7_drawn 111 = .ok (.iadd, 1) := by decide +kernel
theorem dX7_drawn_112 : decode cX7_drawn 112 = .ok (.iconst 5, 1) := by decide +kernel
theorem dX7_drawn_113 : decode cX7_drawn 113 = .ok (.iadd, 1) := by decide +kernel
theorem dX7_drawn_114 : decode cX7_drawn 114 = .ok (.iaload, 1) := by decide +kernel
theorem dX7_drawn_115 : decode cX7_drawn 115 = .ok (.isub, 1) := by decide +kernel
theorem dX7_drawn_116 : decode cX7_drawn 116 = .ok (.invokestatic 180, 3) := by decide +kernel
theorem dX7_drawn_119 : decode cX7_drawn 119 = .ok (.lload 4, 2) := by decide +kernel
theorem dX7_drawn_121 : decode cX7_drawn 121 = .ok (.ldc2_w 217, 3) := by decide +kernel
theorem dX7_drawn_124 : decode cX7_drawn 124 = .ok (.lrem, 1) := by decide +kernel
theorem dX7_drawn_125 : decode cX7_drawn 125 = .ok (.l2i, 1) := by decide +kernel
theorem dX7_drawn_126 : decode cX7_drawn 126 = .ok (.istore 8, 2) := by decide +kernel
theorem dX7_drawn_128 : decode cX7_drawn 128 = .ok (.iload 8, 2) := by decide +kernel
theorem dX7_drawn_130 : decode cX7_drawn 130 = .ok (.iconst 1, 1) := by decide +kernel
theorem dX7_drawn_131 : decode cX7_drawn 131 = .ok (.iadd, 1) := by decide +kernel
theorem dX7_drawn_132 : decode cX7_drawn 132 = .ok (.aload_n 0, 1) := by decide +kernel
theorem dX7_drawn_133 : decode cX7_drawn 133 = .ok (.getfield 25, 3) := by decide +kernel
theorem dX7_drawn_136 : decode cX7_drawn 136 = .ok (.iconst 2, 1) := by decide +kernel
theorem dX7_drawn_137 : decode cX7_drawn 137 = .ok (.iaload, 1) := by decide +kernel
theorem dX7_drawn_138 : decode cX7_drawn 138 = .ok (.if_icmp .ge 30, 3) := by decide +kernel
theorem dX7_drawn_141 : decode cX7_drawn 141 = .ok (.aload_n 0, 1) := by decide +kernel
theorem dX7_drawn_142 : decode cX7_drawn 142 = .ok (.getfield 31, 3) := by decide +kernel
theorem dX7_drawn_145 : decode cX7_drawn 145 = .ok (.aload_n 0, 1) := by decide +kernel
theorem dX7_drawn_146 : decode cX7_drawn 146 = .ok (.getfield 31, 3) := by decide +kernel
theorem dX7_drawn_149 : decode cX7_drawn 149 = .ok (.iload 8, 2) := by decide +kernel
theorem dX7_drawn_151 : decode cX7_drawn 151 = .ok (.invokestatic 145, 3) := by decide +kernel
theorem dX7_drawn_154 : decode cX7_drawn 154 = .ok (.aload_n 0, 1) := by decide +kernel
theorem dX7_drawn_155 : decode cX7_drawn 155 = .ok (.getfield 31, 3) := by decide +kernel
theorem dX7_drawn_158 : decode cX7_drawn 158 = .ok (.iload 8, 2) := by decide +kernel
theorem dX7_drawn_160 : decode cX7_drawn 160 = .ok (.iconst 1, 1) := by decide +kernel
theorem dX7_drawn_161 : decode cX7_drawn 161 = .ok (.iadd, 1) := by decide +kernel
theorem dX7_drawn_162 : decode cX7_drawn 162 = .ok (.invokestatic 145, 3) := by decide +kernel
theorem dX7_drawn_165 : decode cX7_drawn 165 = .ok (.invokestatic 188, 3) := by decide +kernel
theorem dX7_drawn_168 : decode cX7_drawn 168 = .ok (.aload_n 0, 1) := by decide +kernel
theorem dX7_drawn_169 : decode cX7_drawn 169 = .ok (.aload_n 0, 1) := by decide +kernel
theorem dX7_drawn_170 : decode cX7_drawn 170 = .ok (.getfield 31, 3) := by decide +kernel
theorem dX7_drawn_173 : decode cX7_drawn 173 = .ok (.invokevirtual 173, 3) := by decide +kernel
theorem dX7_drawn_176 : decode cX7_drawn 176 = .ok (.iinc 6 1, 3) := by decide +kernel
theorem dX7_drawn_179 : decode cX7_drawn 179 = .ok (.goto (-117), 3) := by decide +kernel
theorem dX7_drawn_182 : decode cX7_drawn 182 = .ok (.aload_n 0, 1) := by decide +kernel
theorem dX7_drawn_183 : decode cX7_drawn 183 = .ok (.getfield 31, 3) := by decide +kernel
theorem dX7_drawn_186 : decode cX7_drawn 186 = .ok (.iload_n 3, 1) := by decide +kernel
theorem dX7_drawn_187 : decode cX7_drawn 187 = .ok (.ifCond .ne 7, 3) := by decide +kernel
theorem dX7_drawn_190 : decode cX7_drawn 190 = .ok (.iconst 4, 1) := by decide +kernel
theorem dX7_drawn_191 : decode cX7_drawn 191 = .ok (.goto 4, 3) := by decide +kernel
theorem dX7_drawn_194 : decode cX7_drawn 194 = .ok (.iconst 5, 1) := by decide +kernel
theorem dX7_drawn_195 : decode cX7_drawn 195 = .ok (.iaload, 1) := by decide +kernel
theorem dX7_drawn_196 : decode cX7_drawn 196 = .ok (.ireturn, 1) := by decide +kernel
set_option maxRecDepth 20000 in
theorem ggX7_image_X7_in : GoodIn wsX7_image wsX7_in := goodIn_r _ [9] (by decide +kernel) (by decide +kernel)
set_option maxRecDepth 20000 in
theorem gX7_image_X7_in : GoodIn wsX7_image (va_wsS RX7 59 yX7_in wsX7_in) := goodIn_app (goodIn_of _ (by decide +kernel)) ggX7_image_X7_in
set_option maxRecDepth 20000 in
theorem ggX7_image_X7_isWedding : GoodIn wsX7_image wsX7_isWedding := goodIn_r _ [13, 3, 17, 18, 19, 20, 21, 22, 23, 24, 25, 26, 27, 28, 29, 30, 31, 32, 33, 34, 35, 36, 37, 38, 39, 40] (by decide +kernel) (by decide +kernel)
set_option maxRecDepth 20000 in
theorem gX7_image_X7_isWedding : GoodIn wsX7_image (wsV RX7 166 RX7 yX7_isWedding wsX7_isWedding) := goodIn_app (goodIn_of _ (by decide +kernel)) ggX7_image_X7_isWedding
set_option maxRecDepth 20000 in
theorem ggX7_image_X7_copies : GoodIn wsX7_image wsX7_copies := goodIn_r _ [16] (by decide +kernel) (by decide +kernel)
set_option maxRecDepth 20000 in
theorem gX7_image_X7_copies : GoodIn wsX7_image (va_wsS RX7 138 yX7_copies wsX7_copies) := goodIn_app (goodIn_of _ (by decide +kernel)) ggX7_image_X7_copies
theorem dX7_image_0 : decode cX7_image 0 = .ok (.iload_n 1, 1) := by decide +kernel
theorem dX7_image_1 : decode cX7_image 1 = .ok (.iconst 0, 1) := by decide +kernel
theorem dX7_image_2 : decode cX7_image 2 = .ok (.iconst 1, 1) := by decide +kernel
theorem dX7_image_3 : decode cX7_image 3 = .ok (.invokestatic 59, 3) := by decide +kernel
theorem dX7_image_6 : decode cX7_image 6 = .ok (.ifCond .ne 6, 3) := by decide +kernel
theorem dX7_image_9 : decode cX7_image 9 = .ok (.ldc 67, 2) := by decide +kernel
theorem dX7_image_11 : decode cX7_image 11 = .ok (.ireturn, 1) := by decide +kernel
theorem dX7_image_12 : decode cX7_image 12 = .ok (.aload_n 0, 1) := by decide +kernel
theorem dX7_image_13 : decode cX7_image 13 = .ok (.invokevirtual 166, 3) := by decide +kernel
theorem dX7_image_16 : decode cX7_image 16 = .ok (.ifCond .ne 6, 3) := by decide +kernel
theorem dX7_image_19 : decode cX7_image 19 = .ok (.ldc 169, 2) := by decide +kernel
theorem dX7_image_21 : decode cX7_image 21 = .ok (.ireturn, 1) := by decide +kernel
theorem dX7_image_22 : decode cX7_image 22 = .ok (.aload_n 0, 1) := by decide +kernel
theorem dX7_image_23 : decode cX7_image 23 = .ok (.getfield 25, 3) := by decide +kernel
theorem dX7_image_26 : decode cX7_image 26 = .ok (.iconst 0, 1) := by decide +kernel
theorem dX7_image_27 : decode cX7_image 27 = .ok (.aload_n 0, 1) := by decide +kernel
theorem dX7_image_28 : decode cX7_image 28 = .ok (.getfield 37, 3) := by decide +kernel
theorem dX7_image_31 : decode cX7_image 31 = .ok (.bipush 55, 2) := by decide +kernel
theorem dX7_image_33 : decode cX7_image 33 = .ok (.iload_n 1, 1) := by decide +kernel
theorem dX7_image_34 : decode cX7_image 34 = .ok (.imul, 1) := by decide +kernel
theorem dX7_image_35 : decode cX7_image 35 = .ok (.invokestatic 138, 3) := by decide +kernel
theorem dX7_image_38 : decode cX7_image 38 = .ok (.aload_n 0, 1) := by decide +kernel
theorem dX7_image_39 : decode cX7_image 39 = .ok (.getfield 40, 3) := by decide +kernel
theorem dX7_image_42 : decode cX7_image 42 = .ok (.iload_n 1, 1) := by decide +kernel
theorem dX7_image_43 : decode cX7_image 43 = .ok (.iconst 1, 1) := by decide +kernel
theorem dX7_image_44 : decode cX7_image 44 = .ok (.bastore, 1) := by decide +kernel
theorem dX7_image_45 : decode cX7_image 45 = .ok (.iconst 1, 1) := by decide +kernel
theorem dX7_image_46 : decode cX7_image 46 = .ok (.ireturn, 1) := by decide +kernel
set_option maxRecDepth 20000 in
theorem ggX7_restore_X7_in : GoodIn wsX7_restore wsX7_in := goodIn_r _ [10] (by decide +kernel) (by decide +kernel)
set_option maxRecDepth 20000 in
theorem gX7_restore_X7_in : GoodIn wsX7_restore (va_wsS RX7 59 yX7_in wsX7_in) := goodIn_app (goodIn_of _ (by decide +kernel)) ggX7_restore_X7_in
set_option maxRecDepth 20000 in
theorem ggX7_restore_X7_copies : GoodIn wsX7_restore wsX7_copies := goodIn_r _ [13] (by decide +kernel) (by decide +kernel)
set_option maxRecDepth 20000 in
theorem gX7_restore_X7_copies : GoodIn wsX7_restore (va_wsS RX7 138 yX7_copies wsX7_copies) := goodIn_app (goodIn_of _ (by decide +kernel)) ggX7_restore_X7_copies
theorem dX7_restore_0 : decode cX7_restore 0 = .ok (.iload_n 1, 1) := by decide +kernel
theorem dX7_restore_1 : decode cX7_restore 1 = .ok (.iconst 0, 1) := by decide +kernel
theorem dX7_restore_2 : decode cX7_restore 2 = .ok (.iconst 1, 1) := by decide +kernel
theorem dX7_restore_3 : decode cX7_restore 3 = .ok (.invokestatic 59, 3) := by decide +kernel
theorem dX7_restore_6 : decode cX7_restore 6 = .ok (.ifCond .ne 6, 3) := by decide +kernel
theorem dX7_restore_9 : decode cX7_restore 9 = .ok (.ldc 67, 2) := by decide +kernel
theorem dX7_restore_11 : decode cX7_restore 11 = .ok (.ireturn, 1) := by decide +kernel
theorem dX7_restore_12 : decode cX7_restore 12 = .ok (.aload_n 0, 1) := by decide +kernel
theorem dX7_restore_13 : decode cX7_restore 13 = .ok (.getfield 40, 3) := by decide +kernel
theorem dX7_restore_16 : decode cX7_restore 16 = .ok (.iload_n 1, 1) := by decide +kernel
theorem dX7_restore_17 : decode cX7_restore 17 = .ok (.baload, 1) := by decide +kernel
theorem dX7_restore_18 : decode cX7_restore 18 = .ok (.ifCond .ne 6, 3) := by decide +kernel
theorem dX7_restore_21 : decode cX7_restore 21 = .ok (.ldc 169, 2) := by decide +kernel
theorem dX7_restore_23 : decode cX7_restore 23 = .ok (.ireturn, 1) := by decide +kernel
theorem dX7_restore_24 : decode cX7_restore 24 = .ok (.aload_n 0, 1) := by decide +kernel
theorem dX7_restore_25 : decode cX7_restore 25 = .ok (.getfield 37, 3) := by decide +kernel
theorem dX7_restore_28 : decode cX7_restore 28 = .ok (.bipush 55, 2) := by decide +kernel
theorem dX7_restore_30 : decode cX7_restore 30 = .ok (.iload_n 1, 1) := by decide +kernel
theorem dX7_restore_31 : decode cX7_restore 31 = .ok (.imul, 1) := by decide +kernel
theorem dX7_restore_32 : decode cX7_restore 32 = .ok (.aload_n 0, 1) := by decide +kernel
theorem dX7_restore_33 : decode cX7_restore 33 = .ok (.getfield 25, 3) := by decide +kernel
theorem dX7_restore_36 : decode cX7_restore 36 = .ok (.iconst 0, 1) := by decide +kernel
theorem dX7_restore_37 : decode cX7_restore 37 = .ok (.invokestatic 138, 3) := by decide +kernel
theorem dX7_restore_40 : decode cX7_restore 40 = .ok (.aload_n 0, 1) := by decide +kernel
theorem dX7_restore_41 : decode cX7_restore 41 = .ok (.iconst 0, 1) := by decide +kernel
theorem dX7_restore_42 : decode cX7_restore 42 = .ok (.putfield 142, 3) := by decide +kernel
theorem dX7_restore_45 : decode cX7_restore 45 = .ok (.iconst 1, 1) := by decide +kernel
theorem dX7_restore_46 : decode cX7_restore 46 = .ok (.ireturn, 1) := by decide +kernel
theorem dX7_kindIn_0 : decode cX7_kindIn 0 = .ok (.aload_n 0, 1) := by decide +kernel
theorem dX7_kindIn_1 : decode cX7_kindIn 1 = .ok (.getfield 25, 3) := by decide +kernel
theorem dX7_kindIn_4 : decode cX7_kindIn 4 = .ok (.bipush 6, 2) := by decide +kernel
theorem dX7_kindIn_6 : decode cX7_kindIn 6 = .ok (.bipush 7, 2) := by decide +kernel
theorem dX7_kindIn_8 : decode cX7_kindIn 8 = .ok (.iload_n 1, 1) := by decide +kernel
theorem dX7_kindIn_9 : decode cX7_kindIn 9 = .ok (.imul, 1) := by decide +kernel
theorem dX7_kindIn_10 : decode cX7_kindIn 10 = .ok (.iadd, 1) := by decide +kernel
theorem dX7_kindIn_11 : decode cX7_kindIn 11 = .ok (.iaload, 1) := by decide +kernel
theorem dX7_kindIn_12 : decode cX7_kindIn 12 = .ok (.ireturn, 1) := by decide +kernel
set_option maxRecDepth 20000 in
theorem ggX7_kind_X7_isGuest : GoodIn wsX7_kind wsX7_isGuest := goodIn_r _ [6, 7, 8, 9, 5, 10, 15, 16, 17, 18, 19, 20, 21, 22, 23, 24, 25, 26, 27, 28, 29, 30, 31, 32, 33, 34, 35, 36, 37, 38] (by decide +kernel) (by decide +kernel)
set_option maxRecDepth 20000 in
theorem gX7_kind_X7_isGuest : GoodIn wsX7_kind (wsV RX7 177 RX7 yX7_isGuest wsX7_isGuest) := goodIn_app (goodIn_of _ (by decide +kernel)) ggX7_kind_X7_isGuest
set_option maxRecDepth 20000 in
theorem ggX7_kind_X7_kindIn : GoodIn wsX7_kind wsX7_kindIn := goodIn_r _ [14, 7, 15, 16, 17, 18, 19, 20, 21, 22, 23, 24, 25, 26, 27, 28, 29, 30, 31, 32, 33, 34, 35, 36, 37, 38] (by decide +kernel) (by decide +kernel)
set_option maxRecDepth 20000 in
theorem gX7_kind_X7_kindIn : GoodIn wsX7_kind (wsV RX7 219 RX7 yX7_kindIn wsX7_kindIn) := goodIn_app (goodIn_of _ (by decide +kernel)) ggX7_kind_X7_kindIn
theorem dX7_kind_0 : decode cX7_kind 0 = .ok (.aload_n 0, 1) := by decide +kernel
theorem dX7_kind_1 : decode cX7_kind 1 = .ok (.iload_n 1, 1) := by decide +kernel
theorem dX7_kind_2 : decode cX7_kind 2 = .ok (.invokevirtual 177, 3) := by decide +kernel
theorem dX7_kind_5 : decode cX7_kind 5 = .ok (.ifCond .eq 11, 3) := by decide +kernel
theorem dX7_kind_8 : decode cX7_kind 8 = .ok (.aload_n 0, 1) := by decide +kernel
theorem dX7_kind_9 : decode cX7_kind 9 = .ok (.iload_n 1, 1) := by decide +kernel
theorem dX7_kind_10 : decode cX7_kind 10 = .ok (.invokevirtual 219, 3) := by decide +kernel
theorem dX7_kind_13 : decode cX7_kind 13 = .ok (.goto 5, 3) := by decide +kernel
theorem dX7_kind_16 : decode cX7_kind 16 = .ok (.ldc 67, 2) := by decide +kernel
theorem dX7_kind_18 : decode cX7_kind 18 = .ok (.ireturn, 1) := by decide +kernel
set_option maxRecDepth 20000 in
theorem ggX7_as_X7_isGuest : GoodIn wsX7_as wsX7_isGuest := goodIn_r _ [6, 7, 8, 9, 5, 10, 25, 26, 27, 28, 29, 30, 31, 32, 33, 34, 35, 36, 37, 38, 39, 40, 41, 42, 43, 44, 45, 46, 47, 48] (by decide +kernel) (by decide +kernel)
set_option maxRecDepth 20000 in
theorem gX7_as_X7_isGuest : GoodIn wsX7_as (wsV RX7 177 RX7 yX7_isGuest wsX7_isGuest) := goodIn_app (goodIn_of _ (by decide +kernel)) ggX7_as_X7_isGuest
set_option maxRecDepth 20000 in
theorem ggX7_as_X7_in : GoodIn wsX7_as wsX7_in := goodIn_r _ [10] (by decide +kernel) (by decide +kernel)
set_option maxRecDepth 20000 in
theorem gX7_as_X7_in : GoodIn wsX7_as (va_wsS RX7 59 yX7_in wsX7_in) := goodIn_app (goodIn_of _ (by decide +kernel)) ggX7_as_X7_in
set_option maxRecDepth 20000 in
theorem ggX7_as_X7_kindIn : GoodIn wsX7_as wsX7_kindIn := goodIn_r _ [14, 7, 25, 26, 27, 28, 29, 30, 31, 32, 33, 34, 35, 36, 37, 38, 39, 40, 41, 42, 43, 44, 45, 46, 47, 48] (by decide +kernel) (by decide +kernel)
set_option maxRecDepth 20000 in
theorem gX7_as_X7_kindIn : GoodIn wsX7_as (wsV RX7 219 RX7 yX7_kindIn wsX7_kindIn) := goodIn_app (goodIn_of _ (by decide +kernel)) ggX7_as_X7_kindIn
set_option maxRecDepth 20000 in
theorem ggX7_as_X7_well : GoodIn wsX7_as wsX7_well := goodIn_r _ [18, 19, 25, 26, 27, 28, 29, 30, 31, 32, 33, 34, 35, 36, 37, 38, 39, 40, 41, 42, 43, 44, 45, 46, 47, 48] (by decide +kernel) (by decide +kernel)
set_option maxRecDepth 20000 in
theorem gX7_as_X7_well : GoodIn wsX7_as (wsV RX7 72 RX7 yX7_well wsX7_well) := goodIn_app (goodIn_of _ (by decide +kernel)) ggX7_as_X7_well
set_option maxRecDepth 20000 in
theorem ggX7_as_X7_found : GoodIn wsX7_as wsX7_found := goodIn_r _ [23, 19, 24, 25, 26, 27, 28, 29, 30, 31, 32, 33, 34, 35, 36, 37, 38, 39, 40, 41, 42, 43, 44, 45, 46, 47, 48] (by decide +kernel) (by decide +kernel)
set_option maxRecDepth 20000 in
theorem gX7_as_X7_found : GoodIn wsX7_as (wsV RX7 68 RX7 yX7_found wsX7_found) := goodIn_app (goodIn_of _ (by decide +kernel)) ggX7_as_X7_found
theorem dX7_as_0 : decode cX7_as 0 = .ok (.aload_n 0, 1) := by decide +kernel
theorem dX7_as_1 : decode cX7_as 1 = .ok (.iload_n 1, 1) := by decide +kernel
theorem dX7_as_2 : decode cX7_as 2 = .ok (.invokevirtual 177, 3) := by decide +kernel
theorem dX7_as_5 : decode cX7_as 5 = .ok (.ifCond .eq 12, 3) := by decide +kernel
theorem dX7_as_8 : decode cX7_as 8 = .ok (.iload_n 2, 1) := by decide +kernel
theorem dX7_as_9 : decode cX7_as 9 = .ok (.iconst 0, 1) := by decide +kernel
theorem dX7_as_10 : decode cX7_as 10 = .ok (.iconst 5, 1) := by decide +kernel
theorem dX7_as_11 : decode cX7_as 11 = .ok (.invokestatic 59, 3) := by decide +kernel
theorem dX7_as_14 : decode cX7_as 14 = .ok (.ifCond .ne 6, 3) := by decide +kernel
theorem dX7_as_17 : decode cX7_as 17 = .ok (.ldc 67, 2) := by decide +kernel
theorem dX7_as_19 : decode cX7_as 19 = .ok (.ireturn, 1) := by decide +kernel
theorem dX7_as_20 : decode cX7_as 20 = .ok (.aload_n 0, 1) := by decide +kernel
theorem dX7_as_21 : decode cX7_as 21 = .ok (.iload_n 1, 1) := by decide +kernel
theorem dX7_as_22 : decode cX7_as 22 = .ok (.invokevirtual 219, 3) := by decide +kernel
theorem dX7_as_25 : decode cX7_as 25 = .ok (.istore_n 3, 1) := by decide +kernel
theorem dX7_as_26 : decode cX7_as 26 = .ok (.iload_n 2, 1) := by decide +kernel
theorem dX7_as_27 : decode cX7_as 27 = .ok (.ifCond .eq 28, 3) := by decide +kernel
theorem dX7_as_30 : decode cX7_as 30 = .ok (.iload_n 2, 1) := by decide +kernel
theorem dX7_as_31 : decode cX7_as 31 = .ok (.iload_n 3, 1) := by decide +kernel
theorem dX7_as_32 : decode cX7_as 32 = .ok (.if_icmp .eq 23, 3) := by decide +kernel
theorem dX7_as_35 : decode cX7_as 35 = .ok (.iload_n 2, 1) := by decide +kernel
theorem dX7_as_36 : decode cX7_as 36 = .ok (.iconst 1, 1) := by decide +kernel
theorem dX7_as_37 : decode cX7_as 37 = .ok (.if_icmp .ne 8, 3) := by decide +kernel
theorem dX7_as_40 : decode cX7_as 40 = .ok (.iload_n 3, 1) := by decide +kernel
theorem dX7_as_41 : decode cX7_as 41 = .ok (.iconst 4, 1) := by decide +kernel
theorem dX7_as_42 : decode cX7_as 42 = .ok (.if_icmp .lt 13, 3) := by decide +kernel
theorem dX7_as_45 : decode cX7_as 45 = .ok (.iload_n 2, 1) := by decide +kernel
theorem dX7_as_46 : decode cX7_as 46 = .ok (.iconst 4, 1) := by decide +kernel
theorem dX7_as_47 : decode cX7_as 47 = .ok (.if_icmp .ne 12, 3) := by decide +kernel
theorem dX7_as_50 : decode cX7_as 50 = .ok (.iload_n 3, 1) := by decide +kernel
theorem dX7_as_51 : decode cX7_as 51 = .ok (.iconst 5, 1) := by decide +kernel
theorem dX7_as_52 : decode cX7_as 52 = .ok (.if_icmp .ne 7, 3) := by decide +kernel
theorem dX7_as_55 : decode cX7_as 55 = .ok (.iconst 1, 1) := by decide +kernel
theorem dX7_as_56 : decode cX7_as 56 = .ok (.goto 4, 3) := by decide +kernel
theorem dX7_as_59 : decode cX7_as 59 = .ok (.iconst 0, 1) := by decide +kernel
theorem dX7_as_60 : decode cX7_as 60 = .ok (.istore 4, 2) := by decide +kernel
theorem dX7_as_62 : decode cX7_as 62 = .ok (.iload 4, 2) := by decide +kernel
theorem dX7_as_64 : decode cX7_as 64 = .ok (.ifCond .eq 11, 3) := by decide +kernel
theorem dX7_as_67 : decode cX7_as 67 = .ok (.aload_n 0, 1) := by decide +kernel
theorem dX7_as_68 : decode cX7_as 68 = .ok (.iload_n 1, 1) := by decide +kernel
theorem dX7_as_69 : decode cX7_as 69 = .ok (.invokevirtual 72, 3) := by decide +kernel
theorem dX7_as_72 : decode cX7_as 72 = .ok (.goto 8, 3) := by decide +kernel
theorem dX7_as_75 : decode cX7_as 75 = .ok (.aload_n 0, 1) := by decide +kernel
theorem dX7_as_76 : decode cX7_as 76 = .ok (.iconst 3, 1) := by decide +kernel
theorem dX7_as_77 : decode cX7_as 77 = .ok (.invokevirtual 68, 3) := by decide +kernel
theorem dX7_as_80 : decode cX7_as 80 = .ok (.ireturn, 1) := by decide +kernel
theorem dX7_begins_0 : decode cX7_begins 0 = .ok (.aload_n 0, 1) := by decide +kernel
theorem dX7_begins_1 : decode cX7_begins 1 = .ok (.getfield 222, 3) := by decide +kernel
theorem dX7_begins_4 : decode cX7_begins 4 = .ok (.bipush 16, 2) := by decide +kernel
theorem dX7_begins_6 : decode cX7_begins 6 = .ok (.if_icmp .ge 23, 3) := by decide +kernel
theorem dX7_begins_9 : decode cX7_begins 9 = .ok (.aload_n 0, 1) := by decide +kernel
theorem dX7_begins_10 : decode cX7_begins 10 = .ok (.getfield 50, 3) := by decide +kernel
theorem dX7_begins_13 : decode cX7_begins 13 = .ok (.aload_n 0, 1) := by decide +kernel
theorem dX7_begins_14 : decode cX7_begins 14 = .ok (.getfield 222, 3) := by decide +kernel
theorem dX7_begins_17 : decode cX7_begins 17 = .ok (.iload_n 1, 1) := by decide +kernel
theorem dX7_begins_18 : decode cX7_begins 18 = .ok (.iastore, 1) := by decide +kernel
theorem dX7_begins_19 : decode cX7_begins 19 = .ok (.aload_n 0, 1) := by decide +kernel
theorem dX7_begins_20 : decode cX7_begins 20 = .ok (.dup, 1) := by decide +kernel
theorem dX7_begins_21 : decode cX7_begins 21 = .ok (.getfield 222, 3) := by decide +kernel
theorem dX7_begins_24 : decode cX7_begins 24 = .ok (.iconst 1, 1) := by decide +kernel
theorem dX7_begins_25 : decode cX7_begins 25 = .ok (.iadd, 1) := by decide +kernel
theorem dX7_begins_26 : decode cX7_begins 26 = .ok (.putfield 222, 3) := by decide +kernel
theorem dX7_begins_29 : decode cX7_begins 29 = .ok (.return_, 1) := by decide +kernel
set_option maxRecDepth 20000 in
theorem ggX7_auntMark_X7_kindIn : GoodIn wsX7_auntMark wsX7_kindIn := goodIn_r _ [6, 1, 13, 14, 15, 16, 17, 18, 19, 20, 21, 22, 23, 24, 25, 26, 27, 28, 29, 30, 31, 32, 33, 34, 35, 36] (by decide +kernel) (by decide +kernel)
set_option maxRecDepth 20000 in
theorem gX7_auntMark_X7_kindIn : GoodIn wsX7_auntMark (wsV RX7 219 RX7 yX7_kindIn wsX7_kindIn) := goodIn_app (goodIn_of _ (by decide +kernel)) ggX7_auntMark_X7_kindIn
set_option maxRecDepth 20000 in
theorem ggX7_auntMark_X7_begins : GoodIn wsX7_auntMark wsX7_begins := goodIn_r _ [10, 11, 12, 13, 14, 15, 16, 17, 18, 19, 20, 21, 22, 23, 24, 25, 26, 27, 28, 29, 30, 31, 32, 33, 34, 35, 36] (by decide +kernel) (by decide +kernel)
set_option maxRecDepth 20000 in
theorem gX7_auntMark_X7_begins : GoodIn wsX7_auntMark (wsV RX7 225 RX7 yX7_begins wsX7_begins) := goodIn_app (goodIn_of _ (by decide +kernel)) ggX7_auntMark_X7_begins
theorem dX7_auntMark_0 : decode cX7_auntMark 0 = .ok (.aload_n 0, 1) := by decide +kernel
theorem dX7_auntMark_1 : decode cX7_auntMark 1 = .ok (.iload_n 1, 1) := by decide +kernel
theorem dX7_auntMark_2 : decode cX7_auntMark 2 = .ok (.invokevirtual 219, 3) := by decide +kernel
theorem dX7_auntMark_5 : decode cX7_auntMark 5 = .ok (.istore_n 2, 1) := by decide +kernel
theorem dX7_auntMark_6 : decode cX7_auntMark 6 = .ok (.iload_n 2, 1) := by decide +kernel
theorem dX7_auntMark_7 : decode cX7_auntMark 7 = .ok (.iconst 1, 1) := by decide +kernel
theorem dX7_auntMark_8 : decode cX7_auntMark 8 = .ok (.if_icmp .eq 19, 3) := by decide +kernel
theorem dX7_auntMark_11 : decode cX7_auntMark 11 = .ok (.aload_n 0, 1) := by decide +kernel
theorem dX7_auntMark_12 : decode cX7_auntMark 12 = .ok (.iload_n 2, 1) := by decide +kernel
theorem dX7_auntMark_13 : decode cX7_auntMark 13 = .ok (.iconst 2, 1) := by decide +kernel
theorem dX7_auntMark_14 : decode cX7_auntMark 14 = .ok (.if_icmp .ne 8, 3) := by decide +kernel
theorem dX7_auntMark_17 : decode cX7_auntMark 17 = .ok (.bipush 24, 2) := by decide +kernel
theorem dX7_auntMark_19 : decode cX7_auntMark 19 = .ok (.goto 5, 3) := by decide +kernel
theorem dX7_auntMark_22 : decode cX7_auntMark 22 = .ok (.bipush 22, 2) := by decide +kernel
theorem dX7_auntMark_24 : decode cX7_auntMark 24 = .ok (.invokevirtual 225, 3) := by decide +kernel
theorem dX7_auntMark_27 : decode cX7_auntMark 27 = .ok (.aload_n 0, 1) := by decide +kernel
theorem dX7_auntMark_28 : decode cX7_auntMark 28 = .ok (.bipush 21, 2) := by decide +kernel
theorem dX7_auntMark_30 : decode cX7_auntMark 30 = .ok (.invokevirtual 225, 3) := by decide +kernel
theorem dX7_auntMark_33 : decode cX7_auntMark 33 = .ok (.aload_n 0, 1) := by decide +kernel
theorem dX7_auntMark_34 : decode cX7_auntMark 34 = .ok (.bipush 20, 2) := by decide +kernel
theorem dX7_auntMark_36 : decode cX7_auntMark 36 = .ok (.invokevirtual 225, 3) := by decide +kernel
theorem dX7_auntMark_39 : decode cX7_auntMark 39 = .ok (.iload_n 1, 1) := by decide +kernel
theorem dX7_auntMark_40 : decode cX7_auntMark 40 = .ok (.aload_n 0, 1) := by decide +kernel
theorem dX7_auntMark_41 : decode cX7_auntMark 41 = .ok (.getfield 25, 3) := by decide +kernel
theorem dX7_auntMark_44 : decode cX7_auntMark 44 = .ok (.bipush 6, 2) := by decide +kernel
theorem dX7_auntMark_46 : decode cX7_auntMark 46 = .ok (.bipush 7, 2) := by decide +kernel
theorem dX7_auntMark_48 : decode cX7_auntMark 48 = .ok (.iload_n 1, 1) := by decide +kernel
theorem dX7_auntMark_49 : decode cX7_auntMark 49 = .ok (.imul, 1) := by decide +kernel
theorem dX7_auntMark_50 : decode cX7_auntMark 50 = .ok (.iadd, 1) := by decide +kernel
theorem dX7_auntMark_51 : decode cX7_auntMark 51 = .ok (.iconst 2, 1) := by decide +kernel
theorem dX7_auntMark_52 : decode cX7_auntMark 52 = .ok (.iadd, 1) := by decide +kernel
theorem dX7_auntMark_53 : decode cX7_auntMark 53 = .ok (.iaload, 1) := by decide +kernel
theorem dX7_auntMark_54 : decode cX7_auntMark 54 = .ok (.iadd, 1) := by decide +kernel
theorem dX7_auntMark_55 : decode cX7_auntMark 55 = .ok (.istore_n 3, 1) := by decide +kernel
theorem dX7_auntMark_56 : decode cX7_auntMark 56 = .ok (.iload_n 2, 1) := by decide +kernel
theorem dX7_auntMark_57 : decode cX7_auntMark 57 = .ok (.iconst 2, 1) := by decide +kernel
theorem dX7_auntMark_58 : decode cX7_auntMark 58 = .ok (.if_icmp .ne 9, 3) := by decide +kernel
theorem dX7_auntMark_61 : decode cX7_auntMark 61 = .ok (.iconst 2, 1) := by decide +kernel
theorem dX7_auntMark_62 : decode cX7_auntMark 62 = .ok (.iload_n 3, 1) := by decide +kernel
theorem dX7_auntMark_63 : decode cX7_auntMark 63 = .ok (.imul, 1) := by decide +kernel
theorem dX7_auntMark_64 : decode cX7_auntMark 64 = .ok (.goto 17, 3) := by decide +kernel
theorem dX7_auntMark_67 : decode cX7_auntMark 67 = .ok (.iload_n 2, 1) := by decide +kernel
theorem dX7_auntMark_68 : decode cX7_auntMark 68 = .ok (.iconst 3, 1) := by decide +kernel
theorem dX7_auntMark_69 : decode cX7_auntMark 69 = .ok (.if_icmp .ne 11, 3) := by decide +kernel
theorem dX7_auntMark_72 : decode cX7_auntMark 72 = .ok (.iload_n 3, 1) := by decide +kernel
theorem dX7_auntMark_73 : decode cX7_auntMark 73 = .ok (.sipush 1000, 3) := by decide +kernel
theorem dX7_auntMark_76 : decode cX7_auntMark 76 = .ok (.isub, 1) := by decide +kernel
theorem dX7_auntMark_77 : decode cX7_auntMark 77 = .ok (.goto 4, 3) := by decide +kernel
theorem dX7_auntMark_80 : decode cX7_auntMark 80 = .ok (.iload_n 3, 1) := by decide +kernel
theorem dX7_auntMark_81 : decode cX7_auntMark 81 = .ok (.ireturn, 1) := by decide +kernel
set_option maxRecDepth 20000 in
theorem ggX7_manSize_X7_kindIn : GoodIn wsX7_manSize wsX7_kindIn := goodIn_r _ [6, 1, 13, 14, 15, 16, 17, 18, 19, 20, 21, 22, 23, 24, 25, 26, 27, 28, 29, 30, 31, 32, 33, 34, 35, 36] (by decide +kernel) (by decide +kernel)
set_option maxRecDepth 20000 in
theorem gX7_manSize_X7_kindIn : GoodIn wsX7_manSize (wsV RX7 219 RX7 yX7_kindIn wsX7_kindIn) := goodIn_app (goodIn_of _ (by decide +kernel)) ggX7_manSize_X7_kindIn
set_option maxRecDepth 20000 in
theorem ggX7_manSize_X7_begins : GoodIn wsX7_manSize wsX7_begins := goodIn_r _ [10, 11, 12, 13, 14, 15, 16, 17, 18, 19, 20, 21, 22, 23, 24, 25, 26, 27, 28, 29, 30, 31, 32, 33, 34, 35, 36] (by decide +kernel) (by decide +kernel)
set_option maxRecDepth 20000 in
theorem gX7_manSize_X7_begins : GoodIn wsX7_manSize (wsV RX7 225 RX7 yX7_begins wsX7_begins) := goodIn_app (goodIn_of _ (by decide +kernel)) ggX7_manSize_X7_begins
theorem dX7_manSize_0 : decode cX7_manSize 0 = .ok (.aload_n 0, 1) := by decide +kernel
theorem dX7_manSize_1 : decode cX7_manSize 1 = .ok (.iload_n 1, 1) := by decide +kernel
theorem dX7_manSize_2 : decode cX7_manSize 2 = .ok (.invokevirtual 219, 3) := by decide +kernel
theorem dX7_manSize_5 : decode cX7_manSize 5 = .ok (.iconst 5, 1) := by decide +kernel
theorem dX7_manSize_6 : decode cX7_manSize 6 = .ok (.if_icmp .ne 7, 3) := by decide +kernel
theorem dX7_manSize_9 : decode cX7_manSize 9 = .ok (.iconst 1, 1) := by decide +kernel
theorem dX7_manSize_10 : decode cX7_manSize 10 = .ok (.goto 4, 3) := by decide +kernel
theorem dX7_manSize_13 : decode cX7_manSize 13 = .ok (.iconst 0, 1) := by decide +kernel
theorem dX7_manSize_14 : decode cX7_manSize 14 = .ok (.istore_n 2, 1) := by decide +kernel
theorem dX7_manSize_15 : decode cX7_manSize 15 = .ok (.iload_n 2, 1) := by decide +kernel
theorem dX7_manSize_16 : decode cX7_manSize 16 = .ok (.ifCond .eq 9, 3) := by decide +kernel
theorem dX7_manSize_19 : decode cX7_manSize 19 = .ok (.aload_n 0, 1) := by decide +kernel
theorem dX7_manSize_20 : decode cX7_manSize 20 = .ok (.bipush 14, 2) := by decide +kernel
theorem dX7_manSize_22 : decode cX7_manSize 22 = .ok (.invokevirtual 225, 3) := by decide +kernel
theorem dX7_manSize_25 : decode cX7_manSize 25 = .ok (.aload_n 0, 1) := by decide +kernel
theorem dX7_manSize_26 : decode cX7_manSize 26 = .ok (.bipush 13, 2) := by decide +kernel
theorem dX7_manSize_28 : decode cX7_manSize 28 = .ok (.invokevirtual 225, 3) := by decide +kernel
theorem dX7_manSize_31 : decode cX7_manSize 31 = .ok (.aload_n 0, 1) := by decide +kernel
theorem dX7_manSize_32 : decode cX7_manSize 32 = .ok (.bipush 10, 2) := by decide +kernel
theorem dX7_manSize_34 : decode cX7_manSize 34 = .ok (.invokevirtual 225, 3) := by decide +kernel
theorem dX7_manSize_37 : decode cX7_manSize 37 = .ok (.aload_n 0, 1) := by decide +kernel
theorem dX7_manSize_38 : decode cX7_manSize 38 = .ok (.getfield 25, 3) := by decide +kernel
theorem dX7_manSize_41 : decode cX7_manSize 41 = .ok (.bipush 6, 2) := by decide +kernel
theorem dX7_manSize_43 : decode cX7_manSize 43 = .ok (.bipush 7, 2) := by decide +kernel
theorem dX7_manSize_45 : decode cX7_manSize 45 = .ok (.iload_n 1, 1) := by decide +kernel
theorem dX7_manSize_46 : decode cX7_manSize 46 = .ok (.imul, 1) := by decide +kernel
theorem dX7_manSize_47 : decode cX7_manSize 47 = .ok (.iadd, 1) := by decide +kernel
theorem dX7_manSize_48 : decode cX7_manSize 48 = .ok (.iconst 1, 1) := by decide +kernel
theorem dX7_manSize_49 : decode cX7_manSize 49 = .ok (.iadd, 1) := by decide +kernel
theorem dX7_manSize_50 : decode cX7_manSize 50 = .ok (.iaload, 1) := by decide +kernel
