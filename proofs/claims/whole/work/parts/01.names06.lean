theorem dX6_hearsNow_9 : decode cX6_hearsNow 9 = .ok (.return_, 1) := by decide +kernel
theorem dX6_rankedAt_0 : decode cX6_rankedAt 0 = .ok (.iconst 0, 1) := by decide +kernel
theorem dX6_rankedAt_1 : decode cX6_rankedAt 1 = .ok (.istore_n 2, 1) := by decide +kernel
theorem dX6_rankedAt_2 : decode cX6_rankedAt 2 = .ok (.iconst 0, 1) := by decide +kernel
theorem dX6_rankedAt_3 : decode cX6_rankedAt 3 = .ok (.istore_n 3, 1) := by decide +kernel
theorem dX6_rankedAt_4 : decode cX6_rankedAt 4 = .ok (.iload_n 3, 1) := by decide +kernel
theorem dX6_rankedAt_5 : decode cX6_rankedAt 5 = .ok (.aload_n 0, 1) := by decide +kernel
theorem dX6_rankedAt_6 : decode cX6_rankedAt 6 = .ok (.getfield 175, 3) := by decide +kernel
theorem dX6_rankedAt_9 : decode cX6_rankedAt 9 = .ok (.if_icmp .ge 90, 3) := by decide +kernel
theorem dX6_rankedAt_12 : decode cX6_rankedAt 12 = .ok (.iconst 0, 1) := by decide +kernel
theorem dX6_rankedAt_13 : decode cX6_rankedAt 13 = .ok (.istore 4, 2) := by decide +kernel
theorem dX6_rankedAt_15 : decode cX6_rankedAt 15 = .ok (.iconst 0, 1) := by decide +kernel
theorem dX6_rankedAt_16 : decode cX6_rankedAt 16 = .ok (.istore 5, 2) := by decide +kernel
theorem dX6_rankedAt_18 : decode cX6_rankedAt 18 = .ok (.iload 5, 2) := by decide +kernel
theorem dX6_rankedAt_20 : decode cX6_rankedAt 20 = .ok (.aload_n 0, 1) := by decide +kernel
theorem dX6_rankedAt_21 : decode cX6_rankedAt 21 = .ok (.getfield 175, 3) := by decide +kernel
theorem dX6_rankedAt_24 : decode cX6_rankedAt 24 = .ok (.if_icmp .ge 57, 3) := by decide +kernel
theorem dX6_rankedAt_27 : decode cX6_rankedAt 27 = .ok (.iload 4, 2) := by decide +kernel
theorem dX6_rankedAt_29 : decode cX6_rankedAt 29 = .ok (.aload_n 0, 1) := by decide +kernel
theorem dX6_rankedAt_30 : decode cX6_rankedAt 30 = .ok (.getfield 50, 3) := by decide +kernel
theorem dX6_rankedAt_33 : decode cX6_rankedAt 33 = .ok (.iload 5, 2) := by decide +kernel
theorem dX6_rankedAt_35 : decode cX6_rankedAt 35 = .ok (.iaload, 1) := by decide +kernel
theorem dX6_rankedAt_36 : decode cX6_rankedAt 36 = .ok (.aload_n 0, 1) := by decide +kernel
theorem dX6_rankedAt_37 : decode cX6_rankedAt 37 = .ok (.getfield 50, 3) := by decide +kernel
theorem dX6_rankedAt_40 : decode cX6_rankedAt 40 = .ok (.iload_n 3, 1) := by decide +kernel
theorem dX6_rankedAt_41 : decode cX6_rankedAt 41 = .ok (.iaload, 1) := by decide +kernel
theorem dX6_rankedAt_42 : decode cX6_rankedAt 42 = .ok (.if_icmp .lt 25, 3) := by decide +kernel
theorem dX6_rankedAt_45 : decode cX6_rankedAt 45 = .ok (.aload_n 0, 1) := by decide +kernel
theorem dX6_rankedAt_46 : decode cX6_rankedAt 46 = .ok (.getfield 50, 3) := by decide +kernel
theorem dX6_rankedAt_49 : decode cX6_rankedAt 49 = .ok (.iload 5, 2) := by decide +kernel
theorem dX6_rankedAt_51 : decode cX6_rankedAt 51 = .ok (.iaload, 1) := by decide +kernel
theorem dX6_rankedAt_52 : decode cX6_rankedAt 52 = .ok (.aload_n 0, 1) := by decide +kernel
theorem dX6_rankedAt_53 : decode cX6_rankedAt 53 = .ok (.getfield 50, 3) := by decide +kernel
theorem dX6_rankedAt_56 : decode cX6_rankedAt 56 = .ok (.iload_n 3, 1) := by decide +kernel
theorem dX6_rankedAt_57 : decode cX6_rankedAt 57 = .ok (.iaload, 1) := by decide +kernel
theorem dX6_rankedAt_58 : decode cX6_rankedAt 58 = .ok (.if_icmp .ne 13, 3) := by decide +kernel
theorem dX6_rankedAt_61 : decode cX6_rankedAt 61 = .ok (.iload 5, 2) := by decide +kernel
theorem dX6_rankedAt_63 : decode cX6_rankedAt 63 = .ok (.iload_n 3, 1) := by decide +kernel
theorem dX6_rankedAt_64 : decode cX6_rankedAt 64 = .ok (.if_icmp .ge 7, 3) := by decide +kernel
theorem dX6_rankedAt_67 : decode cX6_rankedAt 67 = .ok (.iconst 1, 1) := by decide +kernel
theorem dX6_rankedAt_68 : decode cX6_rankedAt 68 = .ok (.goto 4, 3) := by decide +kernel
theorem dX6_rankedAt_71 : decode cX6_rankedAt 71 = .ok (.iconst 0, 1) := by decide +kernel
theorem dX6_rankedAt_72 : decode cX6_rankedAt 72 = .ok (.iadd, 1) := by decide +kernel
theorem dX6_rankedAt_73 : decode cX6_rankedAt 73 = .ok (.istore 4, 2) := by decide +kernel
theorem dX6_rankedAt_75 : decode cX6_rankedAt 75 = .ok (.iinc 5 1, 3) := by decide +kernel
theorem dX6_rankedAt_78 : decode cX6_rankedAt 78 = .ok (.goto (-60), 3) := by decide +kernel
theorem dX6_rankedAt_81 : decode cX6_rankedAt 81 = .ok (.iload 4, 2) := by decide +kernel
theorem dX6_rankedAt_83 : decode cX6_rankedAt 83 = .ok (.iload_n 1, 1) := by decide +kernel
theorem dX6_rankedAt_84 : decode cX6_rankedAt 84 = .ok (.if_icmp .ne 7, 3) := by decide +kernel
theorem dX6_rankedAt_87 : decode cX6_rankedAt 87 = .ok (.iload_n 3, 1) := by decide +kernel
theorem dX6_rankedAt_88 : decode cX6_rankedAt 88 = .ok (.goto 4, 3) := by decide +kernel
theorem dX6_rankedAt_91 : decode cX6_rankedAt 91 = .ok (.iload_n 2, 1) := by decide +kernel
theorem dX6_rankedAt_92 : decode cX6_rankedAt 92 = .ok (.istore_n 2, 1) := by decide +kernel
theorem dX6_rankedAt_93 : decode cX6_rankedAt 93 = .ok (.iinc 3 1, 3) := by decide +kernel
theorem dX6_rankedAt_96 : decode cX6_rankedAt 96 = .ok (.goto (-92), 3) := by decide +kernel
theorem dX6_rankedAt_99 : decode cX6_rankedAt 99 = .ok (.iload_n 2, 1) := by decide +kernel
theorem dX6_rankedAt_100 : decode cX6_rankedAt 100 = .ok (.ireturn, 1) := by decide +kernel
set_option maxRecDepth 20000 in
theorem ggX6_heard_X6_isSeat : GoodIn wsX6_heard wsX6_isSeat := goodIn_r _ [9, 10, 11, 12, 8, 13, 63, 64, 65, 66, 67, 68, 69, 70, 71, 72, 73, 74, 75, 76, 77, 78, 79, 80, 81, 82, 83, 84] (by decide +kernel) (by decide +kernel)
set_option maxRecDepth 20000 in
theorem gX6_heard_X6_isSeat : GoodIn wsX6_heard (wsV RX6 122 RX6 yX6_isSeat wsX6_isSeat) := goodIn_app (goodIn_of _ (by decide +kernel)) ggX6_heard_X6_isSeat
set_option maxRecDepth 20000 in
theorem ggX6_heard_X6_in : GoodIn wsX6_heard wsX6_in := goodIn_r _ [13] (by decide +kernel) (by decide +kernel)
set_option maxRecDepth 20000 in
theorem gX6_heard_X6_in : GoodIn wsX6_heard (va_wsS RX6 75 yX6_in wsX6_in) := goodIn_app (goodIn_of _ (by decide +kernel)) ggX6_heard_X6_in
set_option maxRecDepth 20000 in
theorem ggX6_heard_X6_hearsNow : GoodIn wsX6_heard wsX6_hearsNow := goodIn_r _ [17, 18, 19, 20, 8, 21, 22, 10, 23, 24, 25, 26, 1, 2, 3, 4, 27, 28, 29, 11, 12, 13, 30, 31, 32, 33, 34, 35, 36, 37, 38, 39, 40, 41, 42, 43, 44, 45, 46, 47, 48, 49, 50, 51, 52, 53, 54, 55, 56, 57, 58, 63, 64, 65, 66, 67, 68, 69, 70, 71, 72, 73, 74, 75, 76, 77, 78, 79, 80, 81, 82, 83, 84] (by decide +kernel) (by decide +kernel)
set_option maxRecDepth 20000 in
theorem gX6_heard_X6_hearsNow : GoodIn wsX6_heard (wsV RX6 181 RX6 yX6_hearsNow wsX6_hearsNow) := goodIn_app (goodIn_of _ (by decide +kernel)) ggX6_heard_X6_hearsNow
set_option maxRecDepth 20000 in
theorem ggX6_heard_X6_rankedAt : GoodIn wsX6_heard wsX6_rankedAt := goodIn_r _ [62, 1, 2, 63, 64, 65, 66, 67, 68, 69, 70, 71, 72, 73, 74, 75, 76, 77, 78, 79, 80, 81, 82, 83, 84] (by decide +kernel) (by decide +kernel)
set_option maxRecDepth 20000 in
theorem gX6_heard_X6_rankedAt : GoodIn wsX6_heard (wsV RX6 184 RX6 yX6_rankedAt wsX6_rankedAt) := goodIn_app (goodIn_of _ (by decide +kernel)) ggX6_heard_X6_rankedAt
theorem dX6_heard_0 : decode cX6_heard 0 = .ok (.aload_n 0, 1) := by decide +kernel
theorem dX6_heard_1 : decode cX6_heard 1 = .ok (.iload_n 1, 1) := by decide +kernel
theorem dX6_heard_2 : decode cX6_heard 2 = .ok (.invokevirtual 122, 3) := by decide +kernel
theorem dX6_heard_5 : decode cX6_heard 5 = .ok (.ifCond .eq 16, 3) := by decide +kernel
theorem dX6_heard_8 : decode cX6_heard 8 = .ok (.iload_n 2, 1) := by decide +kernel
theorem dX6_heard_9 : decode cX6_heard 9 = .ok (.ifCond .lt 12, 3) := by decide +kernel
theorem dX6_heard_12 : decode cX6_heard 12 = .ok (.iload_n 3, 1) := by decide +kernel
theorem dX6_heard_13 : decode cX6_heard 13 = .ok (.iconst 0, 1) := by decide +kernel
theorem dX6_heard_14 : decode cX6_heard 14 = .ok (.iconst 2, 1) := by decide +kernel
theorem dX6_heard_15 : decode cX6_heard 15 = .ok (.invokestatic 75, 3) := by decide +kernel
theorem dX6_heard_18 : decode cX6_heard 18 = .ok (.ifCond .ne 5, 3) := by decide +kernel
theorem dX6_heard_21 : decode cX6_heard 21 = .ok (.iconst (-1), 1) := by decide +kernel
theorem dX6_heard_22 : decode cX6_heard 22 = .ok (.ireturn, 1) := by decide +kernel
theorem dX6_heard_23 : decode cX6_heard 23 = .ok (.aload_n 0, 1) := by decide +kernel
theorem dX6_heard_24 : decode cX6_heard 24 = .ok (.iload_n 1, 1) := by decide +kernel
theorem dX6_heard_25 : decode cX6_heard 25 = .ok (.invokevirtual 181, 3) := by decide +kernel
theorem dX6_heard_28 : decode cX6_heard 28 = .ok (.iload_n 2, 1) := by decide +kernel
theorem dX6_heard_29 : decode cX6_heard 29 = .ok (.aload_n 0, 1) := by decide +kernel
theorem dX6_heard_30 : decode cX6_heard 30 = .ok (.getfield 175, 3) := by decide +kernel
theorem dX6_heard_33 : decode cX6_heard 33 = .ok (.if_icmp .lt 6, 3) := by decide +kernel
theorem dX6_heard_36 : decode cX6_heard 36 = .ok (.bipush (-9), 2) := by decide +kernel
theorem dX6_heard_38 : decode cX6_heard 38 = .ok (.ireturn, 1) := by decide +kernel
theorem dX6_heard_39 : decode cX6_heard 39 = .ok (.aload_n 0, 1) := by decide +kernel
theorem dX6_heard_40 : decode cX6_heard 40 = .ok (.iload_n 2, 1) := by decide +kernel
theorem dX6_heard_41 : decode cX6_heard 41 = .ok (.invokevirtual 184, 3) := by decide +kernel
theorem dX6_heard_44 : decode cX6_heard 44 = .ok (.istore 4, 2) := by decide +kernel
theorem dX6_heard_46 : decode cX6_heard 46 = .ok (.iload_n 3, 1) := by decide +kernel
theorem dX6_heard_47 : decode cX6_heard 47 = .ok (.ifCond .ne 13, 3) := by decide +kernel
theorem dX6_heard_50 : decode cX6_heard 50 = .ok (.aload_n 0, 1) := by decide +kernel
theorem dX6_heard_51 : decode cX6_heard 51 = .ok (.getfield 50, 3) := by decide +kernel
theorem dX6_heard_54 : decode cX6_heard 54 = .ok (.iload 4, 2) := by decide +kernel
theorem dX6_heard_56 : decode cX6_heard 56 = .ok (.iaload, 1) := by decide +kernel
theorem dX6_heard_57 : decode cX6_heard 57 = .ok (.goto 25, 3) := by decide +kernel
theorem dX6_heard_60 : decode cX6_heard 60 = .ok (.iload_n 3, 1) := by decide +kernel
theorem dX6_heard_61 : decode cX6_heard 61 = .ok (.iconst 1, 1) := by decide +kernel
theorem dX6_heard_62 : decode cX6_heard 62 = .ok (.if_icmp .ne 13, 3) := by decide +kernel
theorem dX6_heard_65 : decode cX6_heard 65 = .ok (.aload_n 0, 1) := by decide +kernel
theorem dX6_heard_66 : decode cX6_heard 66 = .ok (.getfield 53, 3) := by decide +kernel
theorem dX6_heard_69 : decode cX6_heard 69 = .ok (.iload 4, 2) := by decide +kernel
theorem dX6_heard_71 : decode cX6_heard 71 = .ok (.iaload, 1) := by decide +kernel
theorem dX6_heard_72 : decode cX6_heard 72 = .ok (.goto 10, 3) := by decide +kernel
theorem dX6_heard_75 : decode cX6_heard 75 = .ok (.aload_n 0, 1) := by decide +kernel
theorem dX6_heard_76 : decode cX6_heard 76 = .ok (.getfield 56, 3) := by decide +kernel
theorem dX6_heard_79 : decode cX6_heard 79 = .ok (.iload 4, 2) := by decide +kernel
theorem dX6_heard_81 : decode cX6_heard 81 = .ok (.iaload, 1) := by decide +kernel
theorem dX6_heard_82 : decode cX6_heard 82 = .ok (.ireturn, 1) := by decide +kernel
theorem dX6_soundBy_0 : decode cX6_soundBy 0 = .ok (.iconst 0, 1) := by decide +kernel
theorem dX6_soundBy_1 : decode cX6_soundBy 1 = .ok (.istore_n 2, 1) := by decide +kernel
theorem dX6_soundBy_2 : decode cX6_soundBy 2 = .ok (.iconst 0, 1) := by decide +kernel
theorem dX6_soundBy_3 : decode cX6_soundBy 3 = .ok (.istore_n 3, 1) := by decide +kernel
theorem dX6_soundBy_4 : decode cX6_soundBy 4 = .ok (.iload_n 3, 1) := by decide +kernel
theorem dX6_soundBy_5 : decode cX6_soundBy 5 = .ok (.aload_n 0, 1) := by decide +kernel
theorem dX6_soundBy_6 : decode cX6_soundBy 6 = .ok (.getfield 175, 3) := by decide +kernel
theorem dX6_soundBy_9 : decode cX6_soundBy 9 = .ok (.if_icmp .ge 32, 3) := by decide +kernel
theorem dX6_soundBy_12 : decode cX6_soundBy 12 = .ok (.iload_n 2, 1) := by decide +kernel
theorem dX6_soundBy_13 : decode cX6_soundBy 13 = .ok (.aload_n 0, 1) := by decide +kernel
theorem dX6_soundBy_14 : decode cX6_soundBy 14 = .ok (.getfield 50, 3) := by decide +kernel
theorem dX6_soundBy_17 : decode cX6_soundBy 17 = .ok (.iload_n 3, 1) := by decide +kernel
theorem dX6_soundBy_18 : decode cX6_soundBy 18 = .ok (.iaload, 1) := by decide +kernel
theorem dX6_soundBy_19 : decode cX6_soundBy 19 = .ok (.iload_n 1, 1) := by decide +kernel
theorem dX6_soundBy_20 : decode cX6_soundBy 20 = .ok (.if_icmp .gt 12, 3) := by decide +kernel
theorem dX6_soundBy_23 : decode cX6_soundBy 23 = .ok (.aload_n 0, 1) := by decide +kernel
theorem dX6_soundBy_24 : decode cX6_soundBy 24 = .ok (.getfield 53, 3) := by decide +kernel
theorem dX6_soundBy_27 : decode cX6_soundBy 27 = .ok (.iload_n 3, 1) := by decide +kernel
theorem dX6_soundBy_28 : decode cX6_soundBy 28 = .ok (.iaload, 1) := by decide +kernel
theorem dX6_soundBy_29 : decode cX6_soundBy 29 = .ok (.goto 4, 3) := by decide +kernel
theorem dX6_soundBy_32 : decode cX6_soundBy 32 = .ok (.iconst 0, 1) := by decide +kernel
theorem dX6_soundBy_33 : decode cX6_soundBy 33 = .ok (.iadd, 1) := by decide +kernel
theorem dX6_soundBy_34 : decode cX6_soundBy 34 = .ok (.istore_n 2, 1) := by decide +kernel
theorem dX6_soundBy_35 : decode cX6_soundBy 35 = .ok (.iinc 3 1, 3) := by decide +kernel
theorem dX6_soundBy_38 : decode cX6_soundBy 38 = .ok (.goto (-34), 3) := by decide +kernel
theorem dX6_soundBy_41 : decode cX6_soundBy 41 = .ok (.iload_n 2, 1) := by decide +kernel
theorem dX6_soundBy_42 : decode cX6_soundBy 42 = .ok (.ireturn, 1) := by decide +kernel
set_option maxRecDepth 20000 in
theorem ggX6_soundAll_X6_soundBy : GoodIn wsX6_soundAll wsX6_soundBy := goodIn_r _ [5, 6, 7, 8, 9, 10, 11, 12, 13, 14, 15, 16, 17, 18, 19, 20, 21, 22, 23, 24, 25, 26, 27, 28, 29, 30] (by decide +kernel) (by decide +kernel)
set_option maxRecDepth 20000 in
theorem gX6_soundAll_X6_soundBy : GoodIn wsX6_soundAll (wsV RX6 187 RX6 yX6_soundBy wsX6_soundBy) := goodIn_app (goodIn_of _ (by decide +kernel)) ggX6_soundAll_X6_soundBy
theorem dX6_soundAll_0 : decode cX6_soundAll 0 = .ok (.aload_n 0, 1) := by decide +kernel
theorem dX6_soundAll_1 : decode cX6_soundAll 1 = .ok (.sipush 2000, 3) := by decide +kernel
theorem dX6_soundAll_4 : decode cX6_soundAll 4 = .ok (.invokevirtual 187, 3) := by decide +kernel
theorem dX6_soundAll_7 : decode cX6_soundAll 7 = .ok (.ireturn, 1) := by decide +kernel
set_option maxRecDepth 20000 in
theorem ggX6_sound_X6_isSeat : GoodIn wsX6_sound wsX6_isSeat := goodIn_r _ [7, 8, 9, 10, 6, 11, 71, 72, 73, 74, 75, 76, 77, 78, 79, 80, 81, 82, 83, 84, 85, 86, 87, 88, 89, 90, 91, 92] (by decide +kernel) (by decide +kernel)
set_option maxRecDepth 20000 in
theorem gX6_sound_X6_isSeat : GoodIn wsX6_sound (wsV RX6 122 RX6 yX6_isSeat wsX6_isSeat) := goodIn_app (goodIn_of _ (by decide +kernel)) ggX6_sound_X6_isSeat
set_option maxRecDepth 20000 in
theorem ggX6_sound_X6_in : GoodIn wsX6_sound wsX6_in := goodIn_r _ [11] (by decide +kernel) (by decide +kernel)
set_option maxRecDepth 20000 in
theorem gX6_sound_X6_in : GoodIn wsX6_sound (va_wsS RX6 75 yX6_in wsX6_in) := goodIn_app (goodIn_of _ (by decide +kernel)) ggX6_sound_X6_in
set_option maxRecDepth 20000 in
theorem ggX6_sound_X6_hearsNow : GoodIn wsX6_sound wsX6_hearsNow := goodIn_r _ [15, 16, 17, 18, 6, 19, 20, 8, 21, 22, 23, 24, 1, 2, 25, 26, 27, 28, 29, 9, 10, 11, 30, 31, 32, 33, 34, 35, 36, 37, 38, 39, 40, 41, 42, 43, 44, 45, 46, 47, 48, 49, 50, 51, 52, 53, 54, 55, 56, 57, 58, 71, 72, 73, 74, 75, 76, 77, 78, 79, 80, 81, 82, 83, 84, 85, 86, 87, 88, 89, 90, 91, 92] (by decide +kernel) (by decide +kernel)
set_option maxRecDepth 20000 in
theorem gX6_sound_X6_hearsNow : GoodIn wsX6_sound (wsV RX6 181 RX6 yX6_hearsNow wsX6_hearsNow) := goodIn_app (goodIn_of _ (by decide +kernel)) ggX6_sound_X6_hearsNow
set_option maxRecDepth 20000 in
theorem ggX6_sound_X6_soundAll : GoodIn wsX6_sound wsX6_soundAll := goodIn_r _ [62, 63, 64, 65, 6, 66, 1, 2, 25, 71, 72, 73, 74, 75, 76, 77, 78, 79, 80, 81, 82, 83, 84, 85, 86, 87, 88, 89, 90, 91, 92] (by decide +kernel) (by decide +kernel)
set_option maxRecDepth 20000 in
theorem gX6_sound_X6_soundAll : GoodIn wsX6_sound (wsV RX6 190 RX6 yX6_soundAll wsX6_soundAll) := goodIn_app (goodIn_of _ (by decide +kernel)) ggX6_sound_X6_soundAll
set_option maxRecDepth 20000 in
theorem ggX6_sound_X6_rankedAt : GoodIn wsX6_sound wsX6_rankedAt := goodIn_r _ [70, 1, 2, 71, 72, 73, 74, 75, 76, 77, 78, 79, 80, 81, 82, 83, 84, 85, 86, 87, 88, 89, 90, 91, 92] (by decide +kernel) (by decide +kernel)
set_option maxRecDepth 20000 in
theorem gX6_sound_X6_rankedAt : GoodIn wsX6_sound (wsV RX6 184 RX6 yX6_rankedAt wsX6_rankedAt) := goodIn_app (goodIn_of _ (by decide +kernel)) ggX6_sound_X6_rankedAt
theorem dX6_sound_0 : decode cX6_sound 0 = .ok (.aload_n 0, 1) := by decide +kernel
theorem dX6_sound_1 : decode cX6_sound 1 = .ok (.iload_n 1, 1) := by decide +kernel
theorem dX6_sound_2 : decode cX6_sound 2 = .ok (.invokevirtual 122, 3) := by decide +kernel
theorem dX6_sound_5 : decode cX6_sound 5 = .ok (.ifCond .eq 12, 3) := by decide +kernel
theorem dX6_sound_8 : decode cX6_sound 8 = .ok (.iload_n 2, 1) := by decide +kernel
theorem dX6_sound_9 : decode cX6_sound 9 = .ok (.iconst 0, 1) := by decide +kernel
theorem dX6_sound_10 : decode cX6_sound 10 = .ok (.iconst 2, 1) := by decide +kernel
theorem dX6_sound_11 : decode cX6_sound 11 = .ok (.invokestatic 75, 3) := by decide +kernel
theorem dX6_sound_14 : decode cX6_sound 14 = .ok (.ifCond .ne 5, 3) := by decide +kernel
theorem dX6_sound_17 : decode cX6_sound 17 = .ok (.iconst (-1), 1) := by decide +kernel
theorem dX6_sound_18 : decode cX6_sound 18 = .ok (.ireturn, 1) := by decide +kernel
theorem dX6_sound_19 : decode cX6_sound 19 = .ok (.aload_n 0, 1) := by decide +kernel
theorem dX6_sound_20 : decode cX6_sound 20 = .ok (.iload_n 1, 1) := by decide +kernel
theorem dX6_sound_21 : decode cX6_sound 21 = .ok (.invokevirtual 181, 3) := by decide +kernel
theorem dX6_sound_24 : decode cX6_sound 24 = .ok (.iload_n 2, 1) := by decide +kernel
theorem dX6_sound_25 : decode cX6_sound 25 = .ok (.iconst 2, 1) := by decide +kernel
theorem dX6_sound_26 : decode cX6_sound 26 = .ok (.if_icmp .ge 19, 3) := by decide +kernel
theorem dX6_sound_29 : decode cX6_sound 29 = .ok (.iload_n 2, 1) := by decide +kernel
theorem dX6_sound_30 : decode cX6_sound 30 = .ok (.ifCond .ne 10, 3) := by decide +kernel
theorem dX6_sound_33 : decode cX6_sound 33 = .ok (.aload_n 0, 1) := by decide +kernel
theorem dX6_sound_34 : decode cX6_sound 34 = .ok (.getfield 175, 3) := by decide +kernel
theorem dX6_sound_37 : decode cX6_sound 37 = .ok (.goto 7, 3) := by decide +kernel
theorem dX6_sound_40 : decode cX6_sound 40 = .ok (.aload_n 0, 1) := by decide +kernel
theorem dX6_sound_41 : decode cX6_sound 41 = .ok (.invokevirtual 190, 3) := by decide +kernel
theorem dX6_sound_44 : decode cX6_sound 44 = .ok (.ireturn, 1) := by decide +kernel
theorem dX6_sound_45 : decode cX6_sound 45 = .ok (.aload_n 0, 1) := by decide +kernel
theorem dX6_sound_46 : decode cX6_sound 46 = .ok (.getfield 175, 3) := by decide +kernel
theorem dX6_sound_49 : decode cX6_sound 49 = .ok (.iconst 2, 1) := by decide +kernel
theorem dX6_sound_50 : decode cX6_sound 50 = .ok (.if_icmp .ge 8, 3) := by decide +kernel
theorem dX6_sound_53 : decode cX6_sound 53 = .ok (.bipush (-9), 2) := by decide +kernel
theorem dX6_sound_55 : decode cX6_sound 55 = .ok (.goto 24, 3) := by decide +kernel
theorem dX6_sound_58 : decode cX6_sound 58 = .ok (.aload_n 0, 1) := by decide +kernel
theorem dX6_sound_59 : decode cX6_sound 59 = .ok (.getfield 50, 3) := by decide +kernel
theorem dX6_sound_62 : decode cX6_sound 62 = .ok (.aload_n 0, 1) := by decide +kernel
theorem dX6_sound_63 : decode cX6_sound 63 = .ok (.iconst 1, 1) := by decide +kernel
theorem dX6_sound_64 : decode cX6_sound 64 = .ok (.invokevirtual 184, 3) := by decide +kernel
theorem dX6_sound_67 : decode cX6_sound 67 = .ok (.iaload, 1) := by decide +kernel
theorem dX6_sound_68 : decode cX6_sound 68 = .ok (.aload_n 0, 1) := by decide +kernel
theorem dX6_sound_69 : decode cX6_sound 69 = .ok (.getfield 50, 3) := by decide +kernel
theorem dX6_sound_72 : decode cX6_sound 72 = .ok (.aload_n 0, 1) := by decide +kernel
theorem dX6_sound_73 : decode cX6_sound 73 = .ok (.iconst 0, 1) := by decide +kernel
theorem dX6_sound_74 : decode cX6_sound 74 = .ok (.invokevirtual 184, 3) := by decide +kernel
theorem dX6_sound_77 : decode cX6_sound 77 = .ok (.iaload, 1) := by decide +kernel
theorem dX6_sound_78 : decode cX6_sound 78 = .ok (.isub, 1) := by decide +kernel
theorem dX6_sound_79 : decode cX6_sound 79 = .ok (.ireturn, 1) := by decide +kernel
theorem dX6_common_0 : decode cX6_common 0 = .ok (.iload_n 0, 1) := by decide +kernel
theorem dX6_common_1 : decode cX6_common 1 = .ok (.istore_n 2, 1) := by decide +kernel
theorem dX6_common_2 : decode cX6_common 2 = .ok (.iload_n 1, 1) := by decide +kernel
theorem dX6_common_3 : decode cX6_common 3 = .ok (.istore_n 3, 1) := by decide +kernel
theorem dX6_common_4 : decode cX6_common 4 = .ok (.iload_n 3, 1) := by decide +kernel
theorem dX6_common_5 : decode cX6_common 5 = .ok (.ifCond .eq 16, 3) := by decide +kernel
theorem dX6_common_8 : decode cX6_common 8 = .ok (.iload_n 2, 1) := by decide +kernel
theorem dX6_common_9 : decode cX6_common 9 = .ok (.iload_n 3, 1) := by decide +kernel
theorem dX6_common_10 : decode cX6_common 10 = .ok (.irem, 1) := by decide +kernel
theorem dX6_common_11 : decode cX6_common 11 = .ok (.istore 4, 2) := by decide +kernel
theorem dX6_common_13 : decode cX6_common 13 = .ok (.iload_n 3, 1) := by decide +kernel
theorem dX6_common_14 : decode cX6_common 14 = .ok (.istore_n 2, 1) := by decide +kernel
theorem dX6_common_15 : decode cX6_common 15 = .ok (.iload 4, 2) := by decide +kernel
theorem dX6_common_17 : decode cX6_common 17 = .ok (.istore_n 3, 1) := by decide +kernel
theorem dX6_common_18 : decode cX6_common 18 = .ok (.goto (-14), 3) := by decide +kernel
theorem dX6_common_21 : decode cX6_common 21 = .ok (.iload_n 2, 1) := by decide +kernel
theorem dX6_common_22 : decode cX6_common 22 = .ok (.ireturn, 1) := by decide +kernel
set_option maxRecDepth 20000 in
theorem ggX6_fraction_X6_common : GoodIn wsX6_fraction wsX6_common := goodIn_r _ [4] (by decide +kernel) (by decide +kernel)
set_option maxRecDepth 20000 in
theorem gX6_fraction_X6_common : GoodIn wsX6_fraction (va_wsS RX6 193 yX6_common wsX6_common) := goodIn_app (goodIn_of _ (by decide +kernel)) ggX6_fraction_X6_common
theorem dX6_fraction_0 : decode cX6_fraction 0 = .ok (.iload_n 0, 1) := by decide +kernel
theorem dX6_fraction_1 : decode cX6_fraction 1 = .ok (.iload_n 1, 1) := by decide +kernel
theorem dX6_fraction_2 : decode cX6_fraction 2 = .ok (.invokestatic 193, 3) := by decide +kernel
theorem dX6_fraction_5 : decode cX6_fraction 5 = .ok (.istore_n 3, 1) := by decide +kernel
theorem dX6_fraction_6 : decode cX6_fraction 6 = .ok (.iload_n 2, 1) := by decide +kernel
theorem dX6_fraction_7 : decode cX6_fraction 7 = .ok (.ifCond .ne 9, 3) := by decide +kernel
theorem dX6_fraction_10 : decode cX6_fraction 10 = .ok (.iload_n 0, 1) := by decide +kernel
theorem dX6_fraction_11 : decode cX6_fraction 11 = .ok (.iload_n 3, 1) := by decide +kernel
theorem dX6_fraction_12 : decode cX6_fraction 12 = .ok (.idiv, 1) := by decide +kernel
theorem dX6_fraction_13 : decode cX6_fraction 13 = .ok (.goto 6, 3) := by decide +kernel
theorem dX6_fraction_16 : decode cX6_fraction 16 = .ok (.iload_n 1, 1) := by decide +kernel
theorem dX6_fraction_17 : decode cX6_fraction 17 = .ok (.iload_n 3, 1) := by decide +kernel
theorem dX6_fraction_18 : decode cX6_fraction 18 = .ok (.idiv, 1) := by decide +kernel
theorem dX6_fraction_19 : decode cX6_fraction 19 = .ok (.ireturn, 1) := by decide +kernel
set_option maxRecDepth 20000 in
theorem ggX6_early_X6_isSeat : GoodIn wsX6_early wsX6_isSeat := goodIn_r _ [5, 6, 7, 8, 4, 9, 73, 74, 75, 76, 77, 78, 79, 80, 81, 82, 83, 84, 85, 86, 87, 88, 89, 90, 91, 92, 93, 94] (by decide +kernel) (by decide +kernel)
set_option maxRecDepth 20000 in
theorem gX6_early_X6_isSeat : GoodIn wsX6_early (wsV RX6 122 RX6 yX6_isSeat wsX6_isSeat) := goodIn_app (goodIn_of _ (by decide +kernel)) ggX6_early_X6_isSeat
set_option maxRecDepth 20000 in
theorem ggX6_early_X6_in : GoodIn wsX6_early wsX6_in := goodIn_r _ [9] (by decide +kernel) (by decide +kernel)
set_option maxRecDepth 20000 in
theorem gX6_early_X6_in : GoodIn wsX6_early (va_wsS RX6 75 yX6_in wsX6_in) := goodIn_app (goodIn_of _ (by decide +kernel)) ggX6_early_X6_in
set_option maxRecDepth 20000 in
theorem ggX6_early_X6_hearsNow : GoodIn wsX6_early wsX6_hearsNow := goodIn_r _ [13, 14, 15, 16, 4, 17, 18, 6, 19, 20, 21, 22, 23, 24, 25, 26, 27, 28, 29, 7, 8, 9, 30, 31, 32, 33, 34, 35, 36, 37, 38, 39, 40, 41, 42, 43, 44, 45, 46, 47, 48, 49, 50, 51, 52, 53, 54, 55, 56, 57, 58, 73, 74, 75, 76, 77, 78, 79, 80, 81, 82, 83, 84, 85, 86, 87, 88, 89, 90, 91, 92, 93, 94] (by decide +kernel) (by decide +kernel)
set_option maxRecDepth 20000 in
theorem gX6_early_X6_hearsNow : GoodIn wsX6_early (wsV RX6 181 RX6 yX6_hearsNow wsX6_hearsNow) := goodIn_app (goodIn_of _ (by decide +kernel)) ggX6_early_X6_hearsNow
set_option maxRecDepth 20000 in
theorem ggX6_early_X6_soundAll : GoodIn wsX6_early wsX6_soundAll := goodIn_r _ [62, 63, 64, 65, 4, 66, 23, 24, 25, 73, 74, 75, 76, 77, 78, 79, 80, 81, 82, 83, 84, 85, 86, 87, 88, 89, 90, 91, 92, 93, 94] (by decide +kernel) (by decide +kernel)
set_option maxRecDepth 20000 in
theorem gX6_early_X6_soundAll : GoodIn wsX6_early (wsV RX6 190 RX6 yX6_soundAll wsX6_soundAll) := goodIn_app (goodIn_of _ (by decide +kernel)) ggX6_early_X6_soundAll
set_option maxRecDepth 20000 in
theorem ggX6_early_X6_soundBy : GoodIn wsX6_early wsX6_soundBy := goodIn_r _ [66, 23, 24, 25, 73, 74, 75, 76, 77, 78, 79, 80, 81, 82, 83, 84, 85, 86, 87, 88, 89, 90, 91, 92, 93, 94] (by decide +kernel) (by decide +kernel)
set_option maxRecDepth 20000 in
theorem gX6_early_X6_soundBy : GoodIn wsX6_early (wsV RX6 187 RX6 yX6_soundBy wsX6_soundBy) := goodIn_app (goodIn_of _ (by decide +kernel)) ggX6_early_X6_soundBy
set_option maxRecDepth 20000 in
theorem ggX6_early_X6_fraction : GoodIn wsX6_early wsX6_fraction := goodIn_r _ [69, 70, 71, 4, 72] (by decide +kernel) (by decide +kernel)
set_option maxRecDepth 20000 in
theorem gX6_early_X6_fraction : GoodIn wsX6_early (va_wsS RX6 196 yX6_fraction wsX6_fraction) := goodIn_app (goodIn_of _ (by decide +kernel)) ggX6_early_X6_fraction
theorem dX6_early_0 : decode cX6_early 0 = .ok (.aload_n 0, 1) := by decide +kernel
theorem dX6_early_1 : decode cX6_early 1 = .ok (.iload_n 1, 1) := by decide +kernel
theorem dX6_early_2 : decode cX6_early 2 = .ok (.invokevirtual 122, 3) := by decide +kernel
theorem dX6_early_5 : decode cX6_early 5 = .ok (.ifCond .eq 23, 3) := by decide +kernel
theorem dX6_early_8 : decode cX6_early 8 = .ok (.iload_n 2, 1) := by decide +kernel
theorem dX6_early_9 : decode cX6_early 9 = .ok (.iconst 0, 1) := by decide +kernel
theorem dX6_early_10 : decode cX6_early 10 = .ok (.sipush 999, 3) := by decide +kernel
theorem dX6_early_13 : decode cX6_early 13 = .ok (.invokestatic 75, 3) := by decide +kernel
theorem dX6_early_16 : decode cX6_early 16 = .ok (.ifCond .eq 12, 3) := by decide +kernel
theorem dX6_early_19 : decode cX6_early 19 = .ok (.iload_n 3, 1) := by decide +kernel
theorem dX6_early_20 : decode cX6_early 20 = .ok (.iconst 0, 1) := by decide +kernel
theorem dX6_early_21 : decode cX6_early 21 = .ok (.iconst 1, 1) := by decide +kernel
theorem dX6_early_22 : decode cX6_early 22 = .ok (.invokestatic 75, 3) := by decide +kernel
theorem dX6_early_25 : decode cX6_early 25 = .ok (.ifCond .ne 5, 3) := by decide +kernel
theorem dX6_early_28 : decode cX6_early 28 = .ok (.iconst (-1), 1) := by decide +kernel
theorem dX6_early_29 : decode cX6_early 29 = .ok (.ireturn, 1) := by decide +kernel
theorem dX6_early_30 : decode cX6_early 30 = .ok (.aload_n 0, 1) := by decide +kernel
theorem dX6_early_31 : decode cX6_early 31 = .ok (.iload_n 1, 1) := by decide +kernel
theorem dX6_early_32 : decode cX6_early 32 = .ok (.invokevirtual 181, 3) := by decide +kernel
theorem dX6_early_35 : decode cX6_early 35 = .ok (.aload_n 0, 1) := by decide +kernel
theorem dX6_early_36 : decode cX6_early 36 = .ok (.invokevirtual 190, 3) := by decide +kernel
theorem dX6_early_39 : decode cX6_early 39 = .ok (.istore 4, 2) := by decide +kernel
theorem dX6_early_41 : decode cX6_early 41 = .ok (.iload 4, 2) := by decide +kernel
theorem dX6_early_43 : decode cX6_early 43 = .ok (.ifCond .ne 7, 3) := by decide +kernel
theorem dX6_early_46 : decode cX6_early 46 = .ok (.iload_n 3, 1) := by decide +kernel
theorem dX6_early_47 : decode cX6_early 47 = .ok (.goto 14, 3) := by decide +kernel
theorem dX6_early_50 : decode cX6_early 50 = .ok (.aload_n 0, 1) := by decide +kernel
theorem dX6_early_51 : decode cX6_early 51 = .ok (.iload_n 2, 1) := by decide +kernel
theorem dX6_early_52 : decode cX6_early 52 = .ok (.invokevirtual 187, 3) := by decide +kernel
theorem dX6_early_55 : decode cX6_early 55 = .ok (.iload 4, 2) := by decide +kernel
theorem dX6_early_57 : decode cX6_early 57 = .ok (.iload_n 3, 1) := by decide +kernel
theorem dX6_early_58 : decode cX6_early 58 = .ok (.invokestatic 196, 3) := by decide +kernel
theorem dX6_early_61 : decode cX6_early 61 = .ok (.ireturn, 1) := by decide +kernel
set_option maxRecDepth 20000 in
theorem ggX6_fade_X6_isSeat : GoodIn wsX6_fade wsX6_isSeat := goodIn_r _ [8, 9, 10, 11, 7, 12, 68, 69, 70, 71, 72, 73, 74, 75, 76, 77, 78, 79, 80, 81, 82, 83, 84, 85, 86, 87, 88, 89] (by decide +kernel) (by decide +kernel)
set_option maxRecDepth 20000 in
theorem gX6_fade_X6_isSeat : GoodIn wsX6_fade (wsV RX6 122 RX6 yX6_isSeat wsX6_isSeat) := goodIn_app (goodIn_of _ (by decide +kernel)) ggX6_fade_X6_isSeat
set_option maxRecDepth 20000 in
theorem ggX6_fade_X6_in : GoodIn wsX6_fade wsX6_in := goodIn_r _ [12] (by decide +kernel) (by decide +kernel)
set_option maxRecDepth 20000 in
theorem gX6_fade_X6_in : GoodIn wsX6_fade (va_wsS RX6 75 yX6_in wsX6_in) := goodIn_app (goodIn_of _ (by decide +kernel)) ggX6_fade_X6_in
set_option maxRecDepth 20000 in
theorem ggX6_fade_X6_hearsNow : GoodIn wsX6_fade wsX6_hearsNow := goodIn_r _ [16, 17, 18, 19, 7, 20, 21, 9, 22, 23, 24, 25, 1, 2, 26, 27, 28, 29, 30, 10, 11, 12, 31, 32, 33, 34, 35, 36, 37, 38, 39, 40, 41, 42, 43, 44, 45, 46, 47, 48, 49, 50, 51, 52, 53, 54, 55, 56, 57, 58, 59, 68, 69, 70, 71, 72, 73, 74, 75, 76, 77, 78, 79, 80, 81, 82, 83, 84, 85, 86, 87, 88, 89] (by decide +kernel) (by decide +kernel)
set_option maxRecDepth 20000 in
theorem gX6_fade_X6_hearsNow : GoodIn wsX6_fade (wsV RX6 181 RX6 yX6_hearsNow wsX6_hearsNow) := goodIn_app (goodIn_of _ (by decide +kernel)) ggX6_fade_X6_hearsNow
set_option maxRecDepth 20000 in
theorem ggX6_fade_X6_soundAll : GoodIn wsX6_fade wsX6_soundAll := goodIn_r _ [63, 64, 65, 66, 7, 67, 1, 2, 26, 68, 69, 70, 71, 72, 73, 74, 75, 76, 77, 78, 79, 80, 81, 82, 83, 84, 85, 86, 87, 88, 89] (by decide +kernel) (by decide +kernel)
set_option maxRecDepth 20000 in
theorem gX6_fade_X6_soundAll : GoodIn wsX6_fade (wsV RX6 190 RX6 yX6_soundAll wsX6_soundAll) := goodIn_app (goodIn_of _ (by decide +kernel)) ggX6_fade_X6_soundAll
set_option maxRecDepth 20000 in
theorem ggX6_fade_X6_soundBy : GoodIn wsX6_fade wsX6_soundBy := goodIn_r _ [67, 1, 2, 26, 68, 69, 70, 71, 72, 73, 74, 75, 76, 77, 78, 79, 80, 81, 82, 83, 84, 85, 86, 87, 88, 89] (by decide +kernel) (by decide +kernel)
set_option maxRecDepth 20000 in
theorem gX6_fade_X6_soundBy : GoodIn wsX6_fade (wsV RX6 187 RX6 yX6_soundBy wsX6_soundBy) := goodIn_app (goodIn_of _ (by decide +kernel)) ggX6_fade_X6_soundBy
theorem dX6_fade_0 : decode cX6_fade 0 = .ok (.aload_n 0, 1) := by decide +kernel
theorem dX6_fade_1 : decode cX6_fade 1 = .ok (.iload_n 1, 1) := by decide +kernel
theorem dX6_fade_2 : decode cX6_fade 2 = .ok (.invokevirtual 122, 3) := by decide +kernel
theorem dX6_fade_5 : decode cX6_fade 5 = .ok (.ifCond .eq 13, 3) := by decide +kernel
theorem dX6_fade_8 : decode cX6_fade 8 = .ok (.iload_n 2, 1) := by decide +kernel
theorem dX6_fade_9 : decode cX6_fade 9 = .ok (.iconst 1, 1) := by decide +kernel
theorem dX6_fade_10 : decode cX6_fade 10 = .ok (.bipush 9, 2) := by decide +kernel
theorem dX6_fade_12 : decode cX6_fade 12 = .ok (.invokestatic 75, 3) := by decide +kernel
theorem dX6_fade_15 : decode cX6_fade 15 = .ok (.ifCond .ne 5, 3) := by decide +kernel
theorem dX6_fade_18 : decode cX6_fade 18 = .ok (.iconst (-1), 1) := by decide +kernel
theorem dX6_fade_19 : decode cX6_fade 19 = .ok (.ireturn, 1) := by decide +kernel
theorem dX6_fade_20 : decode cX6_fade 20 = .ok (.aload_n 0, 1) := by decide +kernel
theorem dX6_fade_21 : decode cX6_fade 21 = .ok (.iload_n 1, 1) := by decide +kernel
theorem dX6_fade_22 : decode cX6_fade 22 = .ok (.invokevirtual 181, 3) := by decide +kernel
theorem dX6_fade_25 : decode cX6_fade 25 = .ok (.aload_n 0, 1) := by decide +kernel
theorem dX6_fade_26 : decode cX6_fade 26 = .ok (.invokevirtual 190, 3) := by decide +kernel
theorem dX6_fade_29 : decode cX6_fade 29 = .ok (.i2l, 1) := by decide +kernel
theorem dX6_fade_30 : decode cX6_fade 30 = .ok (.lstore_n 3, 1) := by decide +kernel
theorem dX6_fade_31 : decode cX6_fade 31 = .ok (.bipush (-9), 2) := by decide +kernel
theorem dX6_fade_33 : decode cX6_fade 33 = .ok (.istore 5, 2) := by decide +kernel
theorem dX6_fade_35 : decode cX6_fade 35 = .ok (.iconst 0, 1) := by decide +kernel
theorem dX6_fade_36 : decode cX6_fade 36 = .ok (.istore 6, 2) := by decide +kernel
theorem dX6_fade_38 : decode cX6_fade 38 = .ok (.iload 6, 2) := by decide +kernel
theorem dX6_fade_40 : decode cX6_fade 40 = .ok (.aload_n 0, 1) := by decide +kernel
theorem dX6_fade_41 : decode cX6_fade 41 = .ok (.getfield 175, 3) := by decide +kernel
theorem dX6_fade_44 : decode cX6_fade 44 = .ok (.if_icmp .ge 84, 3) := by decide +kernel
theorem dX6_fade_47 : decode cX6_fade 47 = .ok (.lload_n 3, 1) := by decide +kernel
theorem dX6_fade_48 : decode cX6_fade 48 = .ok (.aload_n 0, 1) := by decide +kernel
theorem dX6_fade_49 : decode cX6_fade 49 = .ok (.aload_n 0, 1) := by decide +kernel
theorem dX6_fade_50 : decode cX6_fade 50 = .ok (.getfield 50, 3) := by decide +kernel
theorem dX6_fade_53 : decode cX6_fade 53 = .ok (.iload 6, 2) := by decide +kernel
theorem dX6_fade_55 : decode cX6_fade 55 = .ok (.iaload, 1) := by decide +kernel
theorem dX6_fade_56 : decode cX6_fade 56 = .ok (.invokevirtual 187, 3) := by decide +kernel
theorem dX6_fade_59 : decode cX6_fade 59 = .ok (.i2l, 1) := by decide +kernel
theorem dX6_fade_60 : decode cX6_fade 60 = .ok (.lsub, 1) := by decide +kernel
theorem dX6_fade_61 : decode cX6_fade 61 = .ok (.lstore 7, 2) := by decide +kernel
theorem dX6_fade_63 : decode cX6_fade 63 = .ok (.ldc2_w 199, 3) := by decide +kernel
theorem dX6_fade_66 : decode cX6_fade 66 = .ok (.lload 7, 2) := by decide +kernel
theorem dX6_fade_68 : decode cX6_fade 68 = .ok (.lmul, 1) := by decide +kernel
theorem dX6_fade_69 : decode cX6_fade 69 = .ok (.iload_n 2, 1) := by decide +kernel
theorem dX6_fade_70 : decode cX6_fade 70 = .ok (.i2l, 1) := by decide +kernel
theorem dX6_fade_71 : decode cX6_fade 71 = .ok (.lload_n 3, 1) := by decide +kernel
theorem dX6_fade_72 : decode cX6_fade 72 = .ok (.lmul, 1) := by decide +kernel
theorem dX6_fade_73 : decode cX6_fade 73 = .ok (.lcmp, 1) := by decide +kernel
theorem dX6_fade_74 : decode cX6_fade 74 = .ok (.ifCond .gt 7, 3) := by decide +kernel
theorem dX6_fade_77 : decode cX6_fade 77 = .ok (.iconst 1, 1) := by decide +kernel
theorem dX6_fade_78 : decode cX6_fade 78 = .ok (.goto 4, 3) := by decide +kernel
theorem dX6_fade_81 : decode cX6_fade 81 = .ok (.iconst 0, 1) := by decide +kernel
theorem dX6_fade_82 : decode cX6_fade 82 = .ok (.istore 9, 2) := by decide +kernel
theorem dX6_fade_84 : decode cX6_fade 84 = .ok (.iload 9, 2) := by decide +kernel
theorem dX6_fade_86 : decode cX6_fade 86 = .ok (.ifCond .eq 32, 3) := by decide +kernel
theorem dX6_fade_89 : decode cX6_fade 89 = .ok (.iload 5, 2) := by decide +kernel
theorem dX6_fade_91 : decode cX6_fade 91 = .ok (.bipush (-9), 2) := by decide +kernel
theorem dX6_fade_93 : decode cX6_fade 93 = .ok (.if_icmp .eq 15, 3) := by decide +kernel
theorem dX6_fade_96 : decode cX6_fade 96 = .ok (.aload_n 0, 1) := by decide +kernel
theorem dX6_fade_97 : decode cX6_fade 97 = .ok (.getfield 50, 3) := by decide +kernel
theorem dX6_fade_100 : decode cX6_fade 100 = .ok (.iload 6, 2) := by decide +kernel
theorem dX6_fade_102 : decode cX6_fade 102 = .ok (.iaload, 1) := by decide +kernel
theorem dX6_fade_103 : decode cX6_fade 103 = .ok (.iload 5, 2) := by decide +kernel
theorem dX6_fade_105 : decode cX6_fade 105 = .ok (.if_icmp .ge 13, 3) := by decide +kernel
theorem dX6_fade_108 : decode cX6_fade 108 = .ok (.aload_n 0, 1) := by decide +kernel
theorem dX6_fade_109 : decode cX6_fade 109 = .ok (.getfield 50, 3) := by decide +kernel
theorem dX6_fade_112 : decode cX6_fade 112 = .ok (.iload 6, 2) := by decide +kernel
theorem dX6_fade_114 : decode cX6_fade 114 = .ok (.iaload, 1) := by decide +kernel
theorem dX6_fade_115 : decode cX6_fade 115 = .ok (.goto 5, 3) := by decide +kernel
theorem dX6_fade_118 : decode cX6_fade 118 = .ok (.iload 5, 2) := by decide +kernel
theorem dX6_fade_120 : decode cX6_fade 120 = .ok (.istore 5, 2) := by decide +kernel
theorem dX6_fade_122 : decode cX6_fade 122 = .ok (.iinc 6 1, 3) := by decide +kernel
theorem dX6_fade_125 : decode cX6_fade 125 = .ok (.goto (-87), 3) := by decide +kernel
theorem dX6_fade_128 : decode cX6_fade 128 = .ok (.iload 5, 2) := by decide +kernel
theorem dX6_fade_130 : decode cX6_fade 130 = .ok (.ireturn, 1) := by decide +kernel
set_option maxRecDepth 20000 in
theorem ggX6_best_X6_in : GoodIn wsX6_best wsX6_in := goodIn_r _ [5] (by decide +kernel) (by decide +kernel)
set_option maxRecDepth 20000 in
theorem gX6_best_X6_in : GoodIn wsX6_best (va_wsS RX6 75 yX6_in wsX6_in) := goodIn_app (goodIn_of _ (by decide +kernel)) ggX6_best_X6_in
set_option maxRecDepth 20000 in
theorem ggX6_best_X6_hearsNow : GoodIn wsX6_best wsX6_hearsNow := goodIn_r _ [9, 10, 11, 12, 4, 13, 14, 1, 15, 16, 17, 18, 19, 20, 21, 22, 23, 24, 25, 2, 3, 5, 26, 27, 28, 29, 30, 31, 32, 33, 34, 35, 36, 37, 38, 39, 40, 41, 42, 43, 44, 45, 46, 47, 48, 49, 50, 51, 52, 53, 54, 63, 64, 65, 66, 67, 68, 69, 70, 71, 72, 73, 74, 75, 76, 77, 78, 79, 80, 81, 82, 83, 84] (by decide +kernel) (by decide +kernel)
set_option maxRecDepth 20000 in
theorem gX6_best_X6_hearsNow : GoodIn wsX6_best (wsV RX6 181 RX6 yX6_hearsNow wsX6_hearsNow) := goodIn_app (goodIn_of _ (by decide +kernel)) ggX6_best_X6_hearsNow
set_option maxRecDepth 20000 in
theorem ggX6_best_X6_soundAll : GoodIn wsX6_best wsX6_soundAll := goodIn_r _ [58, 59, 60, 61, 4, 62, 19, 20, 21, 63, 64, 65, 66, 67, 68, 69, 70, 71, 72, 73, 74, 75, 76, 77, 78, 79, 80, 81, 82, 83, 84] (by decide +kernel) (by decide +kernel)
set_option maxRecDepth 20000 in
theorem gX6_best_X6_soundAll : GoodIn wsX6_best (wsV RX6 190 RX6 yX6_soundAll wsX6_soundAll) := goodIn_app (goodIn_of _ (by decide +kernel)) ggX6_best_X6_soundAll
set_option maxRecDepth 20000 in
theorem ggX6_best_X6_soundBy : GoodIn wsX6_best wsX6_soundBy := goodIn_r _ [62, 19, 20, 21, 63, 64, 65, 66, 67, 68, 69, 70, 71, 72, 73, 74, 75, 76, 77, 78, 79, 80, 81, 82, 83, 84] (by decide +kernel) (by decide +kernel)
set_option maxRecDepth 20000 in
theorem gX6_best_X6_soundBy : GoodIn wsX6_best (wsV RX6 187 RX6 yX6_soundBy wsX6_soundBy) := goodIn_app (goodIn_of _ (by decide +kernel)) ggX6_best_X6_soundBy
theorem dX6_best_0 : decode cX6_best 0 = .ok (.iload_n 1, 1) := by decide +kernel
theorem dX6_best_1 : decode cX6_best 1 = .ok (.iconst 0, 1) := by decide +kernel
theorem dX6_best_2 : decode cX6_best 2 = .ok (.sipush 999, 3) := by decide +kernel
theorem dX6_best_5 : decode cX6_best 5 = .ok (.invokestatic 75, 3) := by decide +kernel
theorem dX6_best_8 : decode cX6_best 8 = .ok (.ifCond .ne 5, 3) := by decide +kernel
theorem dX6_best_11 : decode cX6_best 11 = .ok (.iconst (-1), 1) := by decide +kernel
theorem dX6_best_12 : decode cX6_best 12 = .ok (.ireturn, 1) := by decide +kernel
theorem dX6_best_13 : decode cX6_best 13 = .ok (.bipush (-9), 2) := by decide +kernel
theorem dX6_best_15 : decode cX6_best 15 = .ok (.istore_n 2, 1) := by decide +kernel
theorem dX6_best_16 : decode cX6_best 16 = .ok (.lconst 0, 1) := by decide +kernel
theorem dX6_best_17 : decode cX6_best 17 = .ok (.lstore_n 3, 1) := by decide +kernel
theorem dX6_best_18 : decode cX6_best 18 = .ok (.lconst 1, 1) := by decide +kernel
theorem dX6_best_19 : decode cX6_best 19 = .ok (.lstore 5, 2) := by decide +kernel
theorem dX6_best_21 : decode cX6_best 21 = .ok (.iconst 0, 1) := by decide +kernel
theorem dX6_best_22 : decode cX6_best 22 = .ok (.istore 7, 2) := by decide +kernel
theorem dX6_best_24 : decode cX6_best 24 = .ok (.iload 7, 2) := by decide +kernel
theorem dX6_best_26 : decode cX6_best 26 = .ok (.aload_n 0, 1) := by decide +kernel
theorem dX6_best_27 : decode cX6_best 27 = .ok (.getfield 7, 3) := by decide +kernel
theorem dX6_best_30 : decode cX6_best 30 = .ok (.bipush 8, 2) := by decide +kernel
theorem dX6_best_32 : decode cX6_best 32 = .ok (.iaload, 1) := by decide +kernel
theorem dX6_best_33 : decode cX6_best 33 = .ok (.if_icmp .ge 85, 3) := by decide +kernel
theorem dX6_best_36 : decode cX6_best 36 = .ok (.aload_n 0, 1) := by decide +kernel
theorem dX6_best_37 : decode cX6_best 37 = .ok (.iload 7, 2) := by decide +kernel
theorem dX6_best_39 : decode cX6_best 39 = .ok (.invokevirtual 181, 3) := by decide +kernel
theorem dX6_best_42 : decode cX6_best 42 = .ok (.aload_n 0, 1) := by decide +kernel
theorem dX6_best_43 : decode cX6_best 43 = .ok (.invokevirtual 190, 3) := by decide +kernel
theorem dX6_best_46 : decode cX6_best 46 = .ok (.i2l, 1) := by decide +kernel
theorem dX6_best_47 : decode cX6_best 47 = .ok (.lstore 8, 2) := by decide +kernel
theorem dX6_best_49 : decode cX6_best 49 = .ok (.lload 8, 2) := by decide +kernel
theorem dX6_best_51 : decode cX6_best 51 = .ok (.lconst 0, 1) := by decide +kernel
theorem dX6_best_52 : decode cX6_best 52 = .ok (.lcmp, 1) := by decide +kernel
theorem dX6_best_53 : decode cX6_best 53 = .ok (.ifCond .ne 7, 3) := by decide +kernel
theorem dX6_best_56 : decode cX6_best 56 = .ok (.lconst 0, 1) := by decide +kernel
theorem dX6_best_57 : decode cX6_best 57 = .ok (.goto 9, 3) := by decide +kernel
theorem dX6_best_60 : decode cX6_best 60 = .ok (.aload_n 0, 1) := by decide +kernel
theorem dX6_best_61 : decode cX6_best 61 = .ok (.iload_n 1, 1) := by decide +kernel
theorem dX6_best_62 : decode cX6_best 62 = .ok (.invokevirtual 187, 3) := by decide +kernel
theorem dX6_best_65 : decode cX6_best 65 = .ok (.i2l, 1) := by decide +kernel
theorem dX6_best_66 : decode cX6_best 66 = .ok (.lstore 10, 2) := by decide +kernel
theorem dX6_best_68 : decode cX6_best 68 = .ok (.lload 8, 2) := by decide +kernel
theorem dX6_best_70 : decode cX6_best 70 = .ok (.lconst 0, 1) := by decide +kernel
theorem dX6_best_71 : decode cX6_best 71 = .ok (.lcmp, 1) := by decide +kernel
theorem dX6_best_72 : decode cX6_best 72 = .ok (.ifCond .ne 7, 3) := by decide +kernel
theorem dX6_best_75 : decode cX6_best 75 = .ok (.lconst 1, 1) := by decide +kernel
theorem dX6_best_76 : decode cX6_best 76 = .ok (.goto 5, 3) := by decide +kernel
theorem dX6_best_79 : decode cX6_best 79 = .ok (.lload 8, 2) := by decide +kernel
theorem dX6_best_81 : decode cX6_best 81 = .ok (.lstore 8, 2) := by decide +kernel
theorem dX6_best_83 : decode cX6_best 83 = .ok (.iload_n 2, 1) := by decide +kernel
theorem dX6_best_84 : decode cX6_best 84 = .ok (.bipush (-9), 2) := by decide +kernel
theorem dX6_best_86 : decode cX6_best 86 = .ok (.if_icmp .eq 16, 3) := by decide +kernel
theorem dX6_best_89 : decode cX6_best 89 = .ok (.lload 10, 2) := by decide +kernel
theorem dX6_best_91 : decode cX6_best 91 = .ok (.lload 5, 2) := by decide +kernel
theorem dX6_best_93 : decode cX6_best 93 = .ok (.lmul, 1) := by decide +kernel
theorem dX6_best_94 : decode cX6_best 94 = .ok (.lload_n 3, 1) := by decide +kernel
theorem dX6_best_95 : decode cX6_best 95 = .ok (.lload 8, 2) := by decide +kernel
theorem dX6_best_97 : decode cX6_best 97 = .ok (.lmul, 1) := by decide +kernel
theorem dX6_best_98 : decode cX6_best 98 = .ok (.lcmp, 1) := by decide +kernel
theorem dX6_best_99 : decode cX6_best 99 = .ok (.ifCond .le 13, 3) := by decide +kernel
theorem dX6_best_102 : decode cX6_best 102 = .ok (.iload 7, 2) := by decide +kernel
theorem dX6_best_104 : decode cX6_best 104 = .ok (.istore_n 2, 1) := by decide +kernel
theorem dX6_best_105 : decode cX6_best 105 = .ok (.lload 10, 2) := by decide +kernel
theorem dX6_best_107 : decode cX6_best 107 = .ok (.lstore_n 3, 1) := by decide +kernel
theorem dX6_best_108 : decode cX6_best 108 = .ok (.lload 8, 2) := by decide +kernel
theorem dX6_best_110 : decode cX6_best 110 = .ok (.lstore 5, 2) := by decide +kernel
theorem dX6_best_112 : decode cX6_best 112 = .ok (.iinc 7 1, 3) := by decide +kernel
theorem dX6_best_115 : decode cX6_best 115 = .ok (.goto (-91), 3) := by decide +kernel
theorem dX6_best_118 : decode cX6_best 118 = .ok (.iload_n 2, 1) := by decide +kernel
theorem dX6_best_119 : decode cX6_best 119 = .ok (.ireturn, 1) := by decide +kernel
set_option maxRecDepth 20000 in
theorem ggX6_odds_X6_in : GoodIn wsX6_odds wsX6_in := goodIn_r _ [7] (by decide +kernel) (by decide +kernel)
set_option maxRecDepth 20000 in
theorem gX6_odds_X6_in : GoodIn wsX6_odds (va_wsS RX6 75 yX6_in wsX6_in) := goodIn_app (goodIn_of _ (by decide +kernel)) ggX6_odds_X6_in
set_option maxRecDepth 20000 in
theorem ggX6_odds_X6_isSeat : GoodIn wsX6_odds wsX6_isSeat := goodIn_r _ [11, 3, 4, 5, 6, 7, 66, 67, 68, 69, 70, 71, 72, 73, 74, 75, 76, 77, 78, 79, 80, 81, 82, 83, 84, 85, 86, 87] (by decide +kernel) (by decide +kernel)
set_option maxRecDepth 20000 in
theorem gX6_odds_X6_isSeat : GoodIn wsX6_odds (wsV RX6 122 RX6 yX6_isSeat wsX6_isSeat) := goodIn_app (goodIn_of _ (by decide +kernel)) ggX6_odds_X6_isSeat
set_option maxRecDepth 20000 in
theorem ggX6_odds_X6_hears : GoodIn wsX6_odds wsX6_hears := goodIn_r _ [15, 3, 16, 17, 18, 19, 20, 21, 6, 22, 4, 5, 7, 23, 24, 25, 26, 27, 28, 29, 30, 31, 32, 33, 34, 35, 36, 37, 38, 39, 40, 41, 42, 43, 44, 45, 46, 47, 48, 2, 49, 50, 51, 66, 67, 68, 69, 70, 71, 72, 73, 74, 75, 76, 77, 78, 79, 80, 81, 82, 83, 84, 85, 86, 87] (by decide +kernel) (by decide +kernel)
set_option maxRecDepth 20000 in
theorem gX6_odds_X6_hears : GoodIn wsX6_odds (wsV RX6 178 RX6 yX6_hears wsX6_hears) := goodIn_app (goodIn_of _ (by decide +kernel)) ggX6_odds_X6_hears
set_option maxRecDepth 20000 in
theorem ggX6_odds_X6_soundAll : GoodIn wsX6_odds wsX6_soundAll := goodIn_r _ [55, 56, 57, 58, 6, 59, 16, 17, 18, 66, 67, 68, 69, 70, 71, 72, 73, 74, 75, 76, 77, 78, 79, 80, 81, 82, 83, 84, 85, 86, 87] (by decide +kernel) (by decide +kernel)
set_option maxRecDepth 20000 in
theorem gX6_odds_X6_soundAll : GoodIn wsX6_odds (wsV RX6 190 RX6 yX6_soundAll wsX6_soundAll) := goodIn_app (goodIn_of _ (by decide +kernel)) ggX6_odds_X6_soundAll
set_option maxRecDepth 20000 in
theorem ggX6_odds_X6_fraction : GoodIn wsX6_odds wsX6_fraction := goodIn_r _ [62, 63, 64, 6, 65] (by decide +kernel) (by decide +kernel)
set_option maxRecDepth 20000 in
theorem gX6_odds_X6_fraction : GoodIn wsX6_odds (va_wsS RX6 196 yX6_fraction wsX6_fraction) := goodIn_app (goodIn_of _ (by decide +kernel)) ggX6_odds_X6_fraction
theorem dX6_odds_0 : decode cX6_odds 0 = .ok (.iload_n 1, 1) := by decide +kernel
theorem dX6_odds_1 : decode cX6_odds 1 = .ok (.iconst 0, 1) := by decide +kernel
theorem dX6_odds_2 : decode cX6_odds 2 = .ok (.bipush 10, 2) := by decide +kernel
theorem dX6_odds_4 : decode cX6_odds 4 = .ok (.invokestatic 75, 3) := by decide +kernel
theorem dX6_odds_7 : decode cX6_odds 7 = .ok (.ifCond .eq 31, 3) := by decide +kernel
theorem dX6_odds_10 : decode cX6_odds 10 = .ok (.aload_n 0, 1) := by decide +kernel
theorem dX6_odds_11 : decode cX6_odds 11 = .ok (.iload_n 2, 1) := by decide +kernel
theorem dX6_odds_12 : decode cX6_odds 12 = .ok (.invokevirtual 122, 3) := by decide +kernel
theorem dX6_odds_15 : decode cX6_odds 15 = .ok (.ifCond .eq 23, 3) := by decide +kernel
theorem dX6_odds_18 : decode cX6_odds 18 = .ok (.iload_n 3, 1) := by decide +kernel
theorem dX6_odds_19 : decode cX6_odds 19 = .ok (.iconst 0, 1) := by decide +kernel
theorem dX6_odds_20 : decode cX6_odds 20 = .ok (.ldc 201, 2) := by decide +kernel
theorem dX6_odds_22 : decode cX6_odds 22 = .ok (.invokestatic 75, 3) := by decide +kernel
theorem dX6_odds_25 : decode cX6_odds 25 = .ok (.ifCond .eq 13, 3) := by decide +kernel
theorem dX6_odds_28 : decode cX6_odds 28 = .ok (.iload 4, 2) := by decide +kernel
theorem dX6_odds_30 : decode cX6_odds 30 = .ok (.iconst 0, 1) := by decide +kernel
theorem dX6_odds_31 : decode cX6_odds 31 = .ok (.iconst 1, 1) := by decide +kernel
theorem dX6_odds_32 : decode cX6_odds 32 = .ok (.invokestatic 75, 3) := by decide +kernel
theorem dX6_odds_35 : decode cX6_odds 35 = .ok (.ifCond .ne 5, 3) := by decide +kernel
theorem dX6_odds_38 : decode cX6_odds 38 = .ok (.iconst (-1), 1) := by decide +kernel
theorem dX6_odds_39 : decode cX6_odds 39 = .ok (.ireturn, 1) := by decide +kernel
theorem dX6_odds_40 : decode cX6_odds 40 = .ok (.iconst 0, 1) := by decide +kernel
theorem dX6_odds_41 : decode cX6_odds 41 = .ok (.istore 5, 2) := by decide +kernel
theorem dX6_odds_43 : decode cX6_odds 43 = .ok (.iconst 0, 1) := by decide +kernel
theorem dX6_odds_44 : decode cX6_odds 44 = .ok (.istore 6, 2) := by decide +kernel
theorem dX6_odds_46 : decode cX6_odds 46 = .ok (.iload 6, 2) := by decide +kernel
theorem dX6_odds_48 : decode cX6_odds 48 = .ok (.bipush 16, 2) := by decide +kernel
theorem dX6_odds_50 : decode cX6_odds 50 = .ok (.if_icmp .ge 113, 3) := by decide +kernel
theorem dX6_odds_53 : decode cX6_odds 53 = .ok (.iconst 1, 1) := by decide +kernel
theorem dX6_odds_54 : decode cX6_odds 54 = .ok (.istore 7, 2) := by decide +kernel
theorem dX6_odds_56 : decode cX6_odds 56 = .ok (.iconst 0, 1) := by decide +kernel
theorem dX6_odds_57 : decode cX6_odds 57 = .ok (.istore 8, 2) := by decide +kernel
theorem dX6_odds_59 : decode cX6_odds 59 = .ok (.iload 8, 2) := by decide +kernel
theorem dX6_odds_61 : decode cX6_odds 61 = .ok (.iconst 4, 1) := by decide +kernel
theorem dX6_odds_62 : decode cX6_odds 62 = .ok (.if_icmp .ge 71, 3) := by decide +kernel
theorem dX6_odds_65 : decode cX6_odds 65 = .ok (.iload 6, 2) := by decide +kernel
theorem dX6_odds_67 : decode cX6_odds 67 = .ok (.iload 8, 2) := by decide +kernel
theorem dX6_odds_69 : decode cX6_odds 69 = .ok (.ishr, 1) := by decide +kernel
theorem dX6_odds_70 : decode cX6_odds 70 = .ok (.iconst 1, 1) := by decide +kernel
theorem dX6_odds_71 : decode cX6_odds 71 = .ok (.iand, 1) := by decide +kernel
theorem dX6_odds_72 : decode cX6_odds 72 = .ok (.iconst 1, 1) := by decide +kernel
theorem dX6_odds_73 : decode cX6_odds 73 = .ok (.if_icmp .ne 7, 3) := by decide +kernel
theorem dX6_odds_76 : decode cX6_odds 76 = .ok (.iconst 1, 1) := by decide +kernel
theorem dX6_odds_77 : decode cX6_odds 77 = .ok (.goto 4, 3) := by decide +kernel
theorem dX6_odds_80 : decode cX6_odds 80 = .ok (.iconst 0, 1) := by decide +kernel
theorem dX6_odds_81 : decode cX6_odds 81 = .ok (.istore 9, 2) := by decide +kernel
theorem dX6_odds_83 : decode cX6_odds 83 = .ok (.aload_n 0, 1) := by decide +kernel
theorem dX6_odds_84 : decode cX6_odds 84 = .ok (.getfield 47, 3) := by decide +kernel
theorem dX6_odds_87 : decode cX6_odds 87 = .ok (.iload 8, 2) := by decide +kernel
theorem dX6_odds_89 : decode cX6_odds 89 = .ok (.iload 9, 2) := by decide +kernel
theorem dX6_odds_91 : decode cX6_odds 91 = .ok (.ifCond .eq 8, 3) := by decide +kernel
theorem dX6_odds_94 : decode cX6_odds 94 = .ok (.bipush 10, 2) := by decide +kernel
theorem dX6_odds_96 : decode cX6_odds 96 = .ok (.goto 12, 3) := by decide +kernel
theorem dX6_odds_99 : decode cX6_odds 99 = .ok (.aload_n 0, 1) := by decide +kernel
theorem dX6_odds_100 : decode cX6_odds 100 = .ok (.getfield 7, 3) := by decide +kernel
theorem dX6_odds_103 : decode cX6_odds 103 = .ok (.iconst 4, 1) := by decide +kernel
theorem dX6_odds_104 : decode cX6_odds 104 = .ok (.iload 8, 2) := by decide +kernel
theorem dX6_odds_106 : decode cX6_odds 106 = .ok (.iadd, 1) := by decide +kernel
theorem dX6_odds_107 : decode cX6_odds 107 = .ok (.iaload, 1) := by decide +kernel
theorem dX6_odds_108 : decode cX6_odds 108 = .ok (.iastore, 1) := by decide +kernel
theorem dX6_odds_109 : decode cX6_odds 109 = .ok (.iload 7, 2) := by decide +kernel
theorem dX6_odds_111 : decode cX6_odds 111 = .ok (.iload 9, 2) := by decide +kernel
theorem dX6_odds_113 : decode cX6_odds 113 = .ok (.ifCond .eq 7, 3) := by decide +kernel
theorem dX6_odds_116 : decode cX6_odds 116 = .ok (.iload_n 1, 1) := by decide +kernel
theorem dX6_odds_117 : decode cX6_odds 117 = .ok (.goto 7, 3) := by decide +kernel
theorem dX6_odds_120 : decode cX6_odds 120 = .ok (.bipush 10, 2) := by decide +kernel
theorem dX6_odds_122 : decode cX6_odds 122 = .ok (.iload_n 1, 1) := by decide +kernel
theorem dX6_odds_123 : decode cX6_odds 123 = .ok (.isub, 1) := by decide +kernel
theorem dX6_odds_124 : decode cX6_odds 124 = .ok (.imul, 1) := by decide +kernel
theorem dX6_odds_125 : decode cX6_odds 125 = .ok (.istore 7, 2) := by decide +kernel
theorem dX6_odds_127 : decode cX6_odds 127 = .ok (.iinc 8 1, 3) := by decide +kernel
theorem dX6_odds_130 : decode cX6_odds 130 = .ok (.goto (-71), 3) := by decide +kernel
theorem dX6_odds_133 : decode cX6_odds 133 = .ok (.aload_n 0, 1) := by decide +kernel
theorem dX6_odds_134 : decode cX6_odds 134 = .ok (.iload_n 2, 1) := by decide +kernel
theorem dX6_odds_135 : decode cX6_odds 135 = .ok (.invokevirtual 178, 3) := by decide +kernel
theorem dX6_odds_138 : decode cX6_odds 138 = .ok (.iload 5, 2) := by decide +kernel
theorem dX6_odds_140 : decode cX6_odds 140 = .ok (.aload_n 0, 1) := by decide +kernel
theorem dX6_odds_141 : decode cX6_odds 141 = .ok (.invokevirtual 190, 3) := by decide +kernel
theorem dX6_odds_144 : decode cX6_odds 144 = .ok (.iload_n 3, 1) := by decide +kernel
theorem dX6_odds_145 : decode cX6_odds 145 = .ok (.if_icmp .lt 8, 3) := by decide +kernel
theorem dX6_odds_148 : decode cX6_odds 148 = .ok (.iload 7, 2) := by decide +kernel
theorem dX6_odds_150 : decode cX6_odds 150 = .ok (.goto 4, 3) := by decide +kernel
theorem dX6_odds_153 : decode cX6_odds 153 = .ok (.iconst 0, 1) := by decide +kernel
theorem dX6_odds_154 : decode cX6_odds 154 = .ok (.iadd, 1) := by decide +kernel
theorem dX6_odds_155 : decode cX6_odds 155 = .ok (.istore 5, 2) := by decide +kernel
theorem dX6_odds_157 : decode cX6_odds 157 = .ok (.iinc 6 1, 3) := by decide +kernel
theorem dX6_odds_160 : decode cX6_odds 160 = .ok (.goto (-114), 3) := by decide +kernel
theorem dX6_odds_163 : decode cX6_odds 163 = .ok (.iload 5, 2) := by decide +kernel
theorem dX6_odds_165 : decode cX6_odds 165 = .ok (.sipush 10000, 3) := by decide +kernel
theorem dX6_odds_168 : decode cX6_odds 168 = .ok (.iload 4, 2) := by decide +kernel
theorem dX6_odds_170 : decode cX6_odds 170 = .ok (.invokestatic 196, 3) := by decide +kernel
theorem dX6_odds_173 : decode cX6_odds 173 = .ok (.ireturn, 1) := by decide +kernel
set_option maxRecDepth 20000 in
theorem ggX6_sees_X6_isImage : GoodIn wsX6_sees wsX6_isImage := goodIn_r _ [8, 9, 10, 7, 11, 12, 13, 14] (by decide +kernel) (by decide +kernel)
set_option maxRecDepth 20000 in
theorem gX6_sees_X6_isImage : GoodIn wsX6_sees (va_wsS RX6 142 yX6_isImage wsX6_isImage) := goodIn_app (goodIn_of _ (by decide +kernel)) ggX6_sees_X6_isImage
set_option maxRecDepth 20000 in
theorem ggX6_sees_X6_in : GoodIn wsX6_sees wsX6_in := goodIn_r _ [11] (by decide +kernel) (by decide +kernel)
set_option maxRecDepth 20000 in
theorem gX6_sees_X6_in : GoodIn wsX6_sees (va_wsS RX6 75 yX6_in wsX6_in) := goodIn_app (goodIn_of _ (by decide +kernel)) ggX6_sees_X6_in
theorem dX6_sees_0 : decode cX6_sees 0 = .ok (.iload_n 1, 1) := by decide +kernel
theorem dX6_sees_1 : decode cX6_sees 1 = .ok (.iload_n 2, 1) := by decide +kernel
theorem dX6_sees_2 : decode cX6_sees 2 = .ok (.invokestatic 142, 3) := by decide +kernel
theorem dX6_sees_5 : decode cX6_sees 5 = .ok (.ifCond .eq 14, 3) := by decide +kernel
theorem dX6_sees_8 : decode cX6_sees 8 = .ok (.iload_n 3, 1) := by decide +kernel
theorem dX6_sees_9 : decode cX6_sees 9 = .ok (.iconst 0, 1) := by decide +kernel
theorem dX6_sees_10 : decode cX6_sees 10 = .ok (.sipush 9999, 3) := by decide +kernel
theorem dX6_sees_13 : decode cX6_sees 13 = .ok (.invokestatic 75, 3) := by decide +kernel
theorem dX6_sees_16 : decode cX6_sees 16 = .ok (.ifCond .ne 5, 3) := by decide +kernel
theorem dX6_sees_19 : decode cX6_sees 19 = .ok (.iconst (-1), 1) := by decide +kernel
theorem dX6_sees_20 : decode cX6_sees 20 = .ok (.ireturn, 1) := by decide +kernel
theorem dX6_sees_21 : decode cX6_sees 21 = .ok (.aload_n 0, 1) := by decide +kernel
theorem dX6_sees_22 : decode cX6_sees 22 = .ok (.getfield 72, 3) := by decide +kernel
theorem dX6_sees_25 : decode cX6_sees 25 = .ok (.iconst 4, 1) := by decide +kernel
theorem dX6_sees_26 : decode cX6_sees 26 = .ok (.if_icmp .ne 6, 3) := by decide +kernel
theorem dX6_sees_29 : decode cX6_sees 29 = .ok (.bipush (-3), 2) := by decide +kernel
theorem dX6_sees_31 : decode cX6_sees 31 = .ok (.ireturn, 1) := by decide +kernel
theorem dX6_sees_32 : decode cX6_sees 32 = .ok (.aload_n 0, 1) := by decide +kernel
theorem dX6_sees_33 : decode cX6_sees 33 = .ok (.getfield 26, 3) := by decide +kernel
theorem dX6_sees_36 : decode cX6_sees 36 = .ok (.aload_n 0, 1) := by decide +kernel
theorem dX6_sees_37 : decode cX6_sees 37 = .ok (.getfield 72, 3) := by decide +kernel
theorem dX6_sees_40 : decode cX6_sees 40 = .ok (.iload_n 1, 1) := by decide +kernel
theorem dX6_sees_41 : decode cX6_sees 41 = .ok (.iastore, 1) := by decide +kernel
theorem dX6_sees_42 : decode cX6_sees 42 = .ok (.aload_n 0, 1) := by decide +kernel
theorem dX6_sees_43 : decode cX6_sees 43 = .ok (.getfield 29, 3) := by decide +kernel
theorem dX6_sees_46 : decode cX6_sees 46 = .ok (.aload_n 0, 1) := by decide +kernel
theorem dX6_sees_47 : decode cX6_sees 47 = .ok (.getfield 72, 3) := by decide +kernel
theorem dX6_sees_50 : decode cX6_sees 50 = .ok (.iload_n 2, 1) := by decide +kernel
theorem dX6_sees_51 : decode cX6_sees 51 = .ok (.iastore, 1) := by decide +kernel
theorem dX6_sees_52 : decode cX6_sees 52 = .ok (.aload_n 0, 1) := by decide +kernel
theorem dX6_sees_53 : decode cX6_sees 53 = .ok (.getfield 32, 3) := by decide +kernel
theorem dX6_sees_56 : decode cX6_sees 56 = .ok (.aload_n 0, 1) := by decide +kernel
theorem dX6_sees_57 : decode cX6_sees 57 = .ok (.getfield 72, 3) := by decide +kernel
theorem dX6_sees_60 : decode cX6_sees 60 = .ok (.iload_n 3, 1) := by decide +kernel
theorem dX6_sees_61 : decode cX6_sees 61 = .ok (.iastore, 1) := by decide +kernel
theorem dX6_sees_62 : decode cX6_sees 62 = .ok (.aload_n 0, 1) := by decide +kernel
theorem dX6_sees_63 : decode cX6_sees 63 = .ok (.dup, 1) := by decide +kernel
theorem dX6_sees_64 : decode cX6_sees 64 = .ok (.getfield 72, 3) := by decide +kernel
theorem dX6_sees_67 : decode cX6_sees 67 = .ok (.iconst 1, 1) := by decide +kernel
theorem dX6_sees_68 : decode cX6_sees 68 = .ok (.iadd, 1) := by decide +kernel
theorem dX6_sees_69 : decode cX6_sees 69 = .ok (.putfield 72, 3) := by decide +kernel
theorem dX6_sees_72 : decode cX6_sees 72 = .ok (.aload_n 0, 1) := by decide +kernel
theorem dX6_sees_73 : decode cX6_sees 73 = .ok (.getfield 72, 3) := by decide +kernel
theorem dX6_sees_76 : decode cX6_sees 76 = .ok (.ireturn, 1) := by decide +kernel
theorem dX6_forget_0 : decode cX6_forget 0 = .ok (.aload_n 0, 1) := by decide +kernel
theorem dX6_forget_1 : decode cX6_forget 1 = .ok (.getfield 72, 3) := by decide +kernel
theorem dX6_forget_4 : decode cX6_forget 4 = .ok (.istore_n 1, 1) := by decide +kernel
theorem dX6_forget_5 : decode cX6_forget 5 = .ok (.aload_n 0, 1) := by decide +kernel
theorem dX6_forget_6 : decode cX6_forget 6 = .ok (.iconst 0, 1) := by decide +kernel
theorem dX6_forget_7 : decode cX6_forget 7 = .ok (.putfield 72, 3) := by decide +kernel
theorem dX6_forget_10 : decode cX6_forget 10 = .ok (.iload_n 1, 1) := by decide +kernel
theorem dX6_forget_11 : decode cX6_forget 11 = .ok (.ireturn, 1) := by decide +kernel
set_option maxRecDepth 20000 in
theorem ggX6_mayBe_X6_wayOf : GoodIn wsX6_mayBe wsX6_wayOf := goodIn_r _ [9, 10, 11, 12, 8, 13, 17, 18, 19, 20, 21, 22, 23, 24, 25, 26, 27, 28, 29, 30, 31, 32, 33, 34, 35, 36, 37, 38] (by decide +kernel) (by decide +kernel)
set_option maxRecDepth 20000 in
theorem gX6_mayBe_X6_wayOf : GoodIn wsX6_mayBe (wsV RX6 158 RX6 yX6_wayOf wsX6_wayOf) := goodIn_app (goodIn_of _ (by decide +kernel)) ggX6_mayBe_X6_wayOf
set_option maxRecDepth 20000 in
theorem ggX6_mayBe_X6_timeOf : GoodIn wsX6_mayBe wsX6_timeOf := goodIn_r _ [16] (by decide +kernel) (by decide +kernel)
set_option maxRecDepth 20000 in
theorem gX6_mayBe_X6_timeOf : GoodIn wsX6_mayBe (va_wsS RX6 165 yX6_timeOf wsX6_timeOf) := goodIn_app (goodIn_of _ (by decide +kernel)) ggX6_mayBe_X6_timeOf
theorem dX6_mayBe_0 : decode cX6_mayBe 0 = .ok (.iconst 1, 1) := by decide +kernel
theorem dX6_mayBe_1 : decode cX6_mayBe 1 = .ok (.istore_n 3, 1) := by decide +kernel
theorem dX6_mayBe_2 : decode cX6_mayBe 2 = .ok (.iconst 0, 1) := by decide +kernel
theorem dX6_mayBe_3 : decode cX6_mayBe 3 = .ok (.istore 4, 2) := by decide +kernel
theorem dX6_mayBe_5 : decode cX6_mayBe 5 = .ok (.iload 4, 2) := by decide +kernel
theorem dX6_mayBe_7 : decode cX6_mayBe 7 = .ok (.aload_n 0, 1) := by decide +kernel
theorem dX6_mayBe_8 : decode cX6_mayBe 8 = .ok (.getfield 72, 3) := by decide +kernel
theorem dX6_mayBe_11 : decode cX6_mayBe 11 = .ok (.if_icmp .ge 52, 3) := by decide +kernel
theorem dX6_mayBe_14 : decode cX6_mayBe 14 = .ok (.iload_n 3, 1) := by decide +kernel
theorem dX6_mayBe_15 : decode cX6_mayBe 15 = .ok (.ifCond .eq 40, 3) := by decide +kernel
theorem dX6_mayBe_18 : decode cX6_mayBe 18 = .ok (.aload_n 0, 1) := by decide +kernel
theorem dX6_mayBe_19 : decode cX6_mayBe 19 = .ok (.aload_n 0, 1) := by decide +kernel
theorem dX6_mayBe_20 : decode cX6_mayBe 20 = .ok (.getfield 26, 3) := by decide +kernel
theorem dX6_mayBe_23 : decode cX6_mayBe 23 = .ok (.iload 4, 2) := by decide +kernel
theorem dX6_mayBe_25 : decode cX6_mayBe 25 = .ok (.iaload, 1) := by decide +kernel
theorem dX6_mayBe_26 : decode cX6_mayBe 26 = .ok (.aload_n 0, 1) := by decide +kernel
theorem dX6_mayBe_27 : decode cX6_mayBe 27 = .ok (.getfield 29, 3) := by decide +kernel
theorem dX6_mayBe_30 : decode cX6_mayBe 30 = .ok (.iload 4, 2) := by decide +kernel
theorem dX6_mayBe_32 : decode cX6_mayBe 32 = .ok (.iaload, 1) := by decide +kernel
theorem dX6_mayBe_33 : decode cX6_mayBe 33 = .ok (.iload_n 1, 1) := by decide +kernel
theorem dX6_mayBe_34 : decode cX6_mayBe 34 = .ok (.iload_n 2, 1) := by decide +kernel
theorem dX6_mayBe_35 : decode cX6_mayBe 35 = .ok (.invokevirtual 158, 3) := by decide +kernel
theorem dX6_mayBe_38 : decode cX6_mayBe 38 = .ok (.invokestatic 165, 3) := by decide +kernel
theorem dX6_mayBe_41 : decode cX6_mayBe 41 = .ok (.aload_n 0, 1) := by decide +kernel
theorem dX6_mayBe_42 : decode cX6_mayBe 42 = .ok (.getfield 32, 3) := by decide +kernel
theorem dX6_mayBe_45 : decode cX6_mayBe 45 = .ok (.iload 4, 2) := by decide +kernel
theorem dX6_mayBe_47 : decode cX6_mayBe 47 = .ok (.iaload, 1) := by decide +kernel
theorem dX6_mayBe_48 : decode cX6_mayBe 48 = .ok (.if_icmp .ne 7, 3) := by decide +kernel
theorem dX6_mayBe_51 : decode cX6_mayBe 51 = .ok (.iconst 1, 1) := by decide +kernel
theorem dX6_mayBe_52 : decode cX6_mayBe 52 = .ok (.goto 4, 3) := by decide +kernel
theorem dX6_mayBe_55 : decode cX6_mayBe 55 = .ok (.iconst 0, 1) := by decide +kernel
theorem dX6_mayBe_56 : decode cX6_mayBe 56 = .ok (.istore_n 3, 1) := by decide +kernel
theorem dX6_mayBe_57 : decode cX6_mayBe 57 = .ok (.iinc 4 1, 3) := by decide +kernel
theorem dX6_mayBe_60 : decode cX6_mayBe 60 = .ok (.goto (-55), 3) := by decide +kernel
theorem dX6_mayBe_63 : decode cX6_mayBe 63 = .ok (.iload_n 3, 1) := by decide +kernel
theorem dX6_mayBe_64 : decode cX6_mayBe 64 = .ok (.ireturn, 1) := by decide +kernel
set_option maxRecDepth 20000 in
theorem ggX6_places_X6_mayBe : GoodIn wsX6_places wsX6_mayBe := goodIn_r _ [6, 7, 8, 9, 10, 11, 12, 13, 5, 14, 1, 15, 16, 17, 18, 19, 20, 21, 22, 23, 24, 25, 26, 27, 28, 29, 30, 31, 32, 33, 34, 35, 36, 37, 38, 39, 40, 41, 42] (by decide +kernel) (by decide +kernel)
set_option maxRecDepth 20000 in
theorem gX6_places_X6_mayBe : GoodIn wsX6_places (wsV RX6 202 RX6 yX6_mayBe wsX6_mayBe) := goodIn_app (goodIn_of _ (by decide +kernel)) ggX6_places_X6_mayBe
theorem dX6_places_0 : decode cX6_places 0 = .ok (.iconst 0, 1) := by decide +kernel
theorem dX6_places_1 : decode cX6_places 1 = .ok (.istore_n 2, 1) := by decide +kernel
theorem dX6_places_2 : decode cX6_places 2 = .ok (.iconst 0, 1) := by decide +kernel
theorem dX6_places_3 : decode cX6_places 3 = .ok (.istore_n 3, 1) := by decide +kernel
theorem dX6_places_4 : decode cX6_places 4 = .ok (.iload_n 3, 1) := by decide +kernel
theorem dX6_places_5 : decode cX6_places 5 = .ok (.aload_n 0, 1) := by decide +kernel
theorem dX6_places_6 : decode cX6_places 6 = .ok (.getfield 7, 3) := by decide +kernel
theorem dX6_places_9 : decode cX6_places 9 = .ok (.iconst 0, 1) := by decide +kernel
theorem dX6_places_10 : decode cX6_places 10 = .ok (.iaload, 1) := by decide +kernel
theorem dX6_places_11 : decode cX6_places 11 = .ok (.if_icmp .gt 54, 3) := by decide +kernel
theorem dX6_places_14 : decode cX6_places 14 = .ok (.iconst 0, 1) := by decide +kernel
theorem dX6_places_15 : decode cX6_places 15 = .ok (.istore 4, 2) := by decide +kernel
theorem dX6_places_17 : decode cX6_places 17 = .ok (.iload 4, 2) := by decide +kernel
theorem dX6_places_19 : decode cX6_places 19 = .ok (.aload_n 0, 1) := by decide +kernel
theorem dX6_places_20 : decode cX6_places 20 = .ok (.getfield 7, 3) := by decide +kernel
theorem dX6_places_23 : decode cX6_places 23 = .ok (.iconst 1, 1) := by decide +kernel
theorem dX6_places_24 : decode cX6_places 24 = .ok (.iaload, 1) := by decide +kernel
theorem dX6_places_25 : decode cX6_places 25 = .ok (.if_icmp .gt 34, 3) := by decide +kernel
theorem dX6_places_28 : decode cX6_places 28 = .ok (.aload_n 0, 1) := by decide +kernel
theorem dX6_places_29 : decode cX6_places 29 = .ok (.iload_n 3, 1) := by decide +kernel
theorem dX6_places_30 : decode cX6_places 30 = .ok (.iload 4, 2) := by decide +kernel
theorem dX6_places_32 : decode cX6_places 32 = .ok (.invokevirtual 202, 3) := by decide +kernel
theorem dX6_places_35 : decode cX6_places 35 = .ok (.ifCond .eq 18, 3) := by decide +kernel
theorem dX6_places_38 : decode cX6_places 38 = .ok (.iload_n 1, 1) := by decide +kernel
theorem dX6_places_39 : decode cX6_places 39 = .ok (.ifCond .eq 11, 3) := by decide +kernel
theorem dX6_places_42 : decode cX6_places 42 = .ok (.bipush 100, 2) := by decide +kernel
theorem dX6_places_44 : decode cX6_places 44 = .ok (.iload_n 3, 1) := by decide +kernel
theorem dX6_places_45 : decode cX6_places 45 = .ok (.imul, 1) := by decide +kernel
theorem dX6_places_46 : decode cX6_places 46 = .ok (.iload 4, 2) := by decide +kernel
theorem dX6_places_48 : decode cX6_places 48 = .ok (.iadd, 1) := by decide +kernel
theorem dX6_places_49 : decode cX6_places 49 = .ok (.ireturn, 1) := by decide +kernel
theorem dX6_places_50 : decode cX6_places 50 = .ok (.iinc 2 1, 3) := by decide +kernel
theorem dX6_places_53 : decode cX6_places 53 = .ok (.iinc 4 1, 3) := by decide +kernel
theorem dX6_places_56 : decode cX6_places 56 = .ok (.goto (-39), 3) := by decide +kernel
theorem dX6_places_59 : decode cX6_places 59 = .ok (.iinc 3 1, 3) := by decide +kernel
theorem dX6_places_62 : decode cX6_places 62 = .ok (.goto (-58), 3) := by decide +kernel
theorem dX6_places_65 : decode cX6_places 65 = .ok (.iload_n 1, 1) := by decide +kernel
theorem dX6_places_66 : decode cX6_places 66 = .ok (.ifCond .eq 8, 3) := by decide +kernel
theorem dX6_places_69 : decode cX6_places 69 = .ok (.bipush (-9), 2) := by decide +kernel
theorem dX6_places_71 : decode cX6_places 71 = .ok (.goto 4, 3) := by decide +kernel
theorem dX6_places_74 : decode cX6_places 74 = .ok (.iload_n 2, 1) := by decide +kernel
theorem dX6_places_75 : decode cX6_places 75 = .ok (.ireturn, 1) := by decide +kernel
set_option maxRecDepth 20000 in
theorem ggX6_unseen_X6_in : GoodIn wsX6_unseen wsX6_in := goodIn_r _ [4] (by decide +kernel) (by decide +kernel)
set_option maxRecDepth 20000 in
theorem gX6_unseen_X6_in : GoodIn wsX6_unseen (va_wsS RX6 75 yX6_in wsX6_in) := goodIn_app (goodIn_of _ (by decide +kernel)) ggX6_unseen_X6_in
set_option maxRecDepth 20000 in
theorem ggX6_unseen_X6_places : GoodIn wsX6_unseen wsX6_places := goodIn_r _ [8, 9, 10, 11, 12, 3, 13, 14, 15, 16, 17, 18, 19, 20, 21, 22, 23, 24, 25, 26, 27, 28, 29, 30, 31, 32, 33, 34, 35, 36, 37, 38, 39, 40, 41, 42, 43, 44, 45, 46, 47, 48, 49] (by decide +kernel) (by decide +kernel)
set_option maxRecDepth 20000 in
theorem gX6_unseen_X6_places : GoodIn wsX6_unseen (wsV RX6 205 RX6 yX6_places wsX6_places) := goodIn_app (goodIn_of _ (by decide +kernel)) ggX6_unseen_X6_places
theorem dX6_unseen_0 : decode cX6_unseen 0 = .ok (.iload_n 1, 1) := by decide +kernel
theorem dX6_unseen_1 : decode cX6_unseen 1 = .ok (.iconst 0, 1) := by decide +kernel
theorem dX6_unseen_2 : decode cX6_unseen 2 = .ok (.iconst 1, 1) := by decide +kernel
theorem dX6_unseen_3 : decode cX6_unseen 3 = .ok (.invokestatic 75, 3) := by decide +kernel
theorem dX6_unseen_6 : decode cX6_unseen 6 = .ok (.ifCond .eq 20, 3) := by decide +kernel
theorem dX6_unseen_9 : decode cX6_unseen 9 = .ok (.aload_n 0, 1) := by decide +kernel
theorem dX6_unseen_10 : decode cX6_unseen 10 = .ok (.iload_n 1, 1) := by decide +kernel
theorem dX6_unseen_11 : decode cX6_unseen 11 = .ok (.iconst 1, 1) := by decide +kernel
theorem dX6_unseen_12 : decode cX6_unseen 12 = .ok (.if_icmp .ne 7, 3) := by decide +kernel
theorem dX6_unseen_15 : decode cX6_unseen 15 = .ok (.iconst 1, 1) := by decide +kernel
theorem dX6_unseen_16 : decode cX6_unseen 16 = .ok (.goto 4, 3) := by decide +kernel
theorem dX6_unseen_19 : decode cX6_unseen 19 = .ok (.iconst 0, 1) := by decide +kernel
theorem dX6_unseen_20 : decode cX6_unseen 20 = .ok (.invokevirtual 205, 3) := by decide +kernel
theorem dX6_unseen_23 : decode cX6_unseen 23 = .ok (.goto 4, 3) := by decide +kernel
theorem dX6_unseen_26 : decode cX6_unseen 26 = .ok (.iconst (-1), 1) := by decide +kernel
theorem dX6_unseen_27 : decode cX6_unseen 27 = .ok (.ireturn, 1) := by decide +kernel
set_option maxRecDepth 20000 in
theorem ggX6_unlike_X6_mayBe : GoodIn wsX6_unlike wsX6_mayBe := goodIn_r _ [7, 8, 9, 10, 11, 12, 13, 14, 6, 15, 2, 16, 17, 18, 19, 20, 21, 22, 23, 24, 25, 26, 27, 28, 29, 30, 31, 32, 33, 34, 35, 36, 37, 38, 39, 40, 41, 42, 43] (by decide +kernel) (by decide +kernel)
set_option maxRecDepth 20000 in
theorem gX6_unlike_X6_mayBe : GoodIn wsX6_unlike (wsV RX6 202 RX6 yX6_mayBe wsX6_mayBe) := goodIn_app (goodIn_of _ (by decide +kernel)) ggX6_unlike_X6_mayBe
set_option maxRecDepth 20000 in
theorem ggX6_unlike_X6_wayOf : GoodIn wsX6_unlike wsX6_wayOf := goodIn_r _ [15, 2, 16, 17, 6, 18, 22, 23, 24, 25, 26, 27, 28, 29, 30, 31, 32, 33, 34, 35, 36, 37, 38, 39, 40, 41, 42, 43] (by decide +kernel) (by decide +kernel)
set_option maxRecDepth 20000 in
theorem gX6_unlike_X6_wayOf : GoodIn wsX6_unlike (wsV RX6 158 RX6 yX6_wayOf wsX6_wayOf) := goodIn_app (goodIn_of _ (by decide +kernel)) ggX6_unlike_X6_wayOf
set_option maxRecDepth 20000 in
theorem ggX6_unlike_X6_timeOf : GoodIn wsX6_unlike wsX6_timeOf := goodIn_r _ [21] (by decide +kernel) (by decide +kernel)
set_option maxRecDepth 20000 in
theorem gX6_unlike_X6_timeOf : GoodIn wsX6_unlike (va_wsS RX6 165 yX6_timeOf wsX6_timeOf) := goodIn_app (goodIn_of _ (by decide +kernel)) ggX6_unlike_X6_timeOf
theorem dX6_unlike_0 : decode cX6_unlike 0 = .ok (.iconst 0, 1) := by decide +kernel
theorem dX6_unlike_1 : decode cX6_unlike 1 = .ok (.istore_n 3, 1) := by decide +kernel
theorem dX6_unlike_2 : decode cX6_unlike 2 = .ok (.iload_n 3, 1) := by decide +kernel
theorem dX6_unlike_3 : decode cX6_unlike 3 = .ok (.sipush 2000, 3) := by decide +kernel
theorem dX6_unlike_6 : decode cX6_unlike 6 = .ok (.if_icmp .ge 16, 3) := by decide +kernel
theorem dX6_unlike_9 : decode cX6_unlike 9 = .ok (.aload_n 0, 1) := by decide +kernel
theorem dX6_unlike_10 : decode cX6_unlike 10 = .ok (.getfield 59, 3) := by decide +kernel
theorem dX6_unlike_13 : decode cX6_unlike 13 = .ok (.iload_n 3, 1) := by decide +kernel
theorem dX6_unlike_14 : decode cX6_unlike 14 = .ok (.iconst 0, 1) := by decide +kernel
theorem dX6_unlike_15 : decode cX6_unlike 15 = .ok (.bastore, 1) := by decide +kernel
theorem dX6_unlike_16 : decode cX6_unlike 16 = .ok (.iinc 3 1, 3) := by decide +kernel
theorem dX6_unlike_19 : decode cX6_unlike 19 = .ok (.goto (-17), 3) := by decide +kernel
theorem dX6_unlike_22 : decode cX6_unlike 22 = .ok (.iconst 0, 1) := by decide +kernel
theorem dX6_unlike_23 : decode cX6_unlike 23 = .ok (.istore_n 3, 1) := by decide +kernel
theorem dX6_unlike_24 : decode cX6_unlike 24 = .ok (.iconst 0, 1) := by decide +kernel
theorem dX6_unlike_25 : decode cX6_unlike 25 = .ok (.istore 4, 2) := by decide +kernel
theorem dX6_unlike_27 : decode cX6_unlike 27 = .ok (.iload 4, 2) := by decide +kernel
theorem dX6_unlike_29 : decode cX6_unlike 29 = .ok (.aload_n 0, 1) := by decide +kernel
theorem dX6_unlike_30 : decode cX6_unlike 30 = .ok (.getfield 7, 3) := by decide +kernel
theorem dX6_unlike_33 : decode cX6_unlike 33 = .ok (.iconst 0, 1) := by decide +kernel
theorem dX6_unlike_34 : decode cX6_unlike 34 = .ok (.iaload, 1) := by decide +kernel
theorem dX6_unlike_35 : decode cX6_unlike 35 = .ok (.if_icmp .gt 81, 3) := by decide +kernel
theorem dX6_unlike_38 : decode cX6_unlike 38 = .ok (.iconst 0, 1) := by decide +kernel
theorem dX6_unlike_39 : decode cX6_unlike 39 = .ok (.istore 5, 2) := by decide +kernel
theorem dX6_unlike_41 : decode cX6_unlike 41 = .ok (.iload 5, 2) := by decide +kernel
theorem dX6_unlike_43 : decode cX6_unlike 43 = .ok (.aload_n 0, 1) := by decide +kernel
theorem dX6_unlike_44 : decode cX6_unlike 44 = .ok (.getfield 7, 3) := by decide +kernel
theorem dX6_unlike_47 : decode cX6_unlike 47 = .ok (.iconst 1, 1) := by decide +kernel
theorem dX6_unlike_48 : decode cX6_unlike 48 = .ok (.iaload, 1) := by decide +kernel
theorem dX6_unlike_49 : decode cX6_unlike 49 = .ok (.if_icmp .gt 61, 3) := by decide +kernel
theorem dX6_unlike_52 : decode cX6_unlike 52 = .ok (.aload_n 0, 1) := by decide +kernel
theorem dX6_unlike_53 : decode cX6_unlike 53 = .ok (.iload 4, 2) := by decide +kernel
theorem dX6_unlike_55 : decode cX6_unlike 55 = .ok (.iload 5, 2) := by decide +kernel
theorem dX6_unlike_57 : decode cX6_unlike 57 = .ok (.invokevirtual 202, 3) := by decide +kernel
theorem dX6_unlike_60 : decode cX6_unlike 60 = .ok (.ifCond .eq 44, 3) := by decide +kernel
theorem dX6_unlike_63 : decode cX6_unlike 63 = .ok (.aload_n 0, 1) := by decide +kernel
theorem dX6_unlike_64 : decode cX6_unlike 64 = .ok (.iload_n 1, 1) := by decide +kernel
theorem dX6_unlike_65 : decode cX6_unlike 65 = .ok (.iload_n 2, 1) := by decide +kernel
theorem dX6_unlike_66 : decode cX6_unlike 66 = .ok (.iload 4, 2) := by decide +kernel
theorem dX6_unlike_68 : decode cX6_unlike 68 = .ok (.iload 5, 2) := by decide +kernel
theorem dX6_unlike_70 : decode cX6_unlike 70 = .ok (.invokevirtual 158, 3) := by decide +kernel
theorem dX6_unlike_73 : decode cX6_unlike 73 = .ok (.invokestatic 165, 3) := by decide +kernel
theorem dX6_unlike_76 : decode cX6_unlike 76 = .ok (.istore 6, 2) := by decide +kernel
theorem dX6_unlike_78 : decode cX6_unlike 78 = .ok (.iload_n 3, 1) := by decide +kernel
theorem dX6_unlike_79 : decode cX6_unlike 79 = .ok (.aload_n 0, 1) := by decide +kernel
theorem dX6_unlike_80 : decode cX6_unlike 80 = .ok (.getfield 59, 3) := by decide +kernel
theorem dX6_unlike_83 : decode cX6_unlike 83 = .ok (.iload 6, 2) := by decide +kernel
theorem dX6_unlike_85 : decode cX6_unlike 85 = .ok (.baload, 1) := by decide +kernel
theorem dX6_unlike_86 : decode cX6_unlike 86 = .ok (.ifCond .eq 7, 3) := by decide +kernel
theorem dX6_unlike_89 : decode cX6_unlike 89 = .ok (.iconst 0, 1) := by decide +kernel
theorem dX6_unlike_90 : decode cX6_unlike 90 = .ok (.goto 4, 3) := by decide +kernel
theorem dX6_unlike_93 : decode cX6_unlike 93 = .ok (.iconst 1, 1) := by decide +kernel
theorem dX6_unlike_94 : decode cX6_unlike 94 = .ok (.iadd, 1) := by decide +kernel
theorem dX6_unlike_95 : decode cX6_unlike 95 = .ok (.istore_n 3, 1) := by decide +kernel
theorem dX6_unlike_96 : decode cX6_unlike 96 = .ok (.aload_n 0, 1) := by decide +kernel
theorem dX6_unlike_97 : decode cX6_unlike 97 = .ok (.getfield 59, 3) := by decide +kernel
theorem dX6_unlike_100 : decode cX6_unlike 100 = .ok (.iload 6, 2) := by decide +kernel
theorem dX6_unlike_102 : decode cX6_unlike 102 = .ok (.iconst 1, 1) := by decide +kernel
theorem dX6_unlike_103 : decode cX6_unlike 103 = .ok (.bastore, 1) := by decide +kernel
theorem dX6_unlike_104 : decode cX6_unlike 104 = .ok (.iinc 5 1, 3) := by decide +kernel
theorem dX6_unlike_107 : decode cX6_unlike 107 = .ok (.goto (-66), 3) := by decide +kernel
theorem dX6_unlike_110 : decode cX6_unlike 110 = .ok (.iinc 4 1, 3) := by decide +kernel
theorem dX6_unlike_113 : decode cX6_unlike 113 = .ok (.goto (-86), 3) := by decide +kernel
theorem dX6_unlike_116 : decode cX6_unlike 116 = .ok (.iload_n 3, 1) := by decide +kernel
theorem dX6_unlike_117 : decode cX6_unlike 117 = .ok (.ireturn, 1) := by decide +kernel
set_option maxRecDepth 20000 in
theorem ggX6_listen_X6_places : GoodIn wsX6_listen wsX6_places := goodIn_r _ [5, 6, 7, 8, 9, 4, 10, 11, 12, 13, 14, 15, 16, 17, 18, 19, 20, 21, 22, 23, 24, 39, 40, 41, 42, 43, 44, 45, 46, 47, 48, 49, 50, 51, 52, 53, 54, 55, 56, 57, 58, 59, 60] (by decide +kernel) (by decide +kernel)
set_option maxRecDepth 20000 in
theorem gX6_listen_X6_places : GoodIn wsX6_listen (wsV RX6 205 RX6 yX6_places wsX6_places) := goodIn_app (goodIn_of _ (by decide +kernel)) ggX6_listen_X6_places
set_option maxRecDepth 20000 in
theorem ggX6_listen_X6_isImage : GoodIn wsX6_listen wsX6_isImage := goodIn_r _ [27, 28, 29, 4, 30, 31, 32, 33] (by decide +kernel) (by decide +kernel)
set_option maxRecDepth 20000 in
theorem gX6_listen_X6_isImage : GoodIn wsX6_listen (va_wsS RX6 142 yX6_isImage wsX6_isImage) := goodIn_app (goodIn_of _ (by decide +kernel)) ggX6_listen_X6_isImage
set_option maxRecDepth 20000 in
theorem ggX6_listen_X6_unlike : GoodIn wsX6_listen wsX6_unlike := goodIn_r _ [37, 38, 6, 7, 8, 9, 4, 10, 11, 12, 13, 14, 15, 16, 17, 18, 19, 20, 21, 22, 23, 24, 39, 40, 41, 42, 43, 44, 45, 46, 47, 48, 49, 50, 51, 52, 53, 54, 55, 56, 57, 58, 59, 60] (by decide +kernel) (by decide +kernel)
set_option maxRecDepth 20000 in
theorem gX6_listen_X6_unlike : GoodIn wsX6_listen (wsV RX6 209 RX6 yX6_unlike wsX6_unlike) := goodIn_app (goodIn_of _ (by decide +kernel)) ggX6_listen_X6_unlike
theorem dX6_listen_0 : decode cX6_listen 0 = .ok (.aload_n 0, 1) := by decide +kernel
theorem dX6_listen_1 : decode cX6_listen 1 = .ok (.iconst 0, 1) := by decide +kernel
theorem dX6_listen_2 : decode cX6_listen 2 = .ok (.invokevirtual 205, 3) := by decide +kernel
theorem dX6_listen_5 : decode cX6_listen 5 = .ok (.iconst 2, 1) := by decide +kernel
theorem dX6_listen_6 : decode cX6_listen 6 = .ok (.if_icmp .ge 6, 3) := by decide +kernel
theorem dX6_listen_9 : decode cX6_listen 9 = .ok (.bipush (-9), 2) := by decide +kernel
theorem dX6_listen_11 : decode cX6_listen 11 = .ok (.ireturn, 1) := by decide +kernel
theorem dX6_listen_12 : decode cX6_listen 12 = .ok (.bipush (-9), 2) := by decide +kernel
theorem dX6_listen_14 : decode cX6_listen 14 = .ok (.istore_n 1, 1) := by decide +kernel
theorem dX6_listen_15 : decode cX6_listen 15 = .ok (.iconst 0, 1) := by decide +kernel
theorem dX6_listen_16 : decode cX6_listen 16 = .ok (.istore_n 2, 1) := by decide +kernel
theorem dX6_listen_17 : decode cX6_listen 17 = .ok (.bipush (-3), 2) := by decide +kernel
theorem dX6_listen_19 : decode cX6_listen 19 = .ok (.istore_n 3, 1) := by decide +kernel
theorem dX6_listen_20 : decode cX6_listen 20 = .ok (.iload_n 3, 1) := by decide +kernel
theorem dX6_listen_21 : decode cX6_listen 21 = .ok (.iconst 3, 1) := by decide +kernel
theorem dX6_listen_22 : decode cX6_listen 22 = .ok (.if_icmp .gt 82, 3) := by decide +kernel
theorem dX6_listen_25 : decode cX6_listen 25 = .ok (.bipush (-3), 2) := by decide +kernel
theorem dX6_listen_27 : decode cX6_listen 27 = .ok (.istore 4, 2) := by decide +kernel
theorem dX6_listen_29 : decode cX6_listen 29 = .ok (.iload 4, 2) := by decide +kernel
theorem dX6_listen_31 : decode cX6_listen 31 = .ok (.iconst 3, 1) := by decide +kernel
theorem dX6_listen_32 : decode cX6_listen 32 = .ok (.if_icmp .gt 66, 3) := by decide +kernel
theorem dX6_listen_35 : decode cX6_listen 35 = .ok (.iload_n 3, 1) := by decide +kernel
theorem dX6_listen_36 : decode cX6_listen 36 = .ok (.iload 4, 2) := by decide +kernel
theorem dX6_listen_38 : decode cX6_listen 38 = .ok (.invokestatic 142, 3) := by decide +kernel
theorem dX6_listen_41 : decode cX6_listen 41 = .ok (.ifCond .eq 13, 3) := by decide +kernel
theorem dX6_listen_44 : decode cX6_listen 44 = .ok (.aload_n 0, 1) := by decide +kernel
theorem dX6_listen_45 : decode cX6_listen 45 = .ok (.iload_n 3, 1) := by decide +kernel
theorem dX6_listen_46 : decode cX6_listen 46 = .ok (.iload 4, 2) := by decide +kernel
theorem dX6_listen_48 : decode cX6_listen 48 = .ok (.invokevirtual 209, 3) := by decide +kernel
theorem dX6_listen_51 : decode cX6_listen 51 = .ok (.goto 4, 3) := by decide +kernel
theorem dX6_listen_54 : decode cX6_listen 54 = .ok (.iconst 0, 1) := by decide +kernel
theorem dX6_listen_55 : decode cX6_listen 55 = .ok (.istore 5, 2) := by decide +kernel
theorem dX6_listen_57 : decode cX6_listen 57 = .ok (.iload 5, 2) := by decide +kernel
theorem dX6_listen_59 : decode cX6_listen 59 = .ok (.iload_n 2, 1) := by decide +kernel
theorem dX6_listen_60 : decode cX6_listen 60 = .ok (.if_icmp .le 17, 3) := by decide +kernel
theorem dX6_listen_63 : decode cX6_listen 63 = .ok (.bipush 100, 2) := by decide +kernel
theorem dX6_listen_65 : decode cX6_listen 65 = .ok (.iload_n 3, 1) := by decide +kernel
theorem dX6_listen_66 : decode cX6_listen 66 = .ok (.iconst 3, 1) := by decide +kernel
theorem dX6_listen_67 : decode cX6_listen 67 = .ok (.iadd, 1) := by decide +kernel
theorem dX6_listen_68 : decode cX6_listen 68 = .ok (.imul, 1) := by decide +kernel
theorem dX6_listen_69 : decode cX6_listen 69 = .ok (.iload 4, 2) := by decide +kernel
theorem dX6_listen_71 : decode cX6_listen 71 = .ok (.iadd, 1) := by decide +kernel
theorem dX6_listen_72 : decode cX6_listen 72 = .ok (.iconst 3, 1) := by decide +kernel
theorem dX6_listen_73 : decode cX6_listen 73 = .ok (.iadd, 1) := by decide +kernel
theorem dX6_listen_74 : decode cX6_listen 74 = .ok (.goto 4, 3) := by decide +kernel
theorem dX6_listen_77 : decode cX6_listen 77 = .ok (.iload_n 1, 1) := by decide +kernel
theorem dX6_listen_78 : decode cX6_listen 78 = .ok (.istore_n 1, 1) := by decide +kernel
theorem dX6_listen_79 : decode cX6_listen 79 = .ok (.iload 5, 2) := by decide +kernel
theorem dX6_listen_81 : decode cX6_listen 81 = .ok (.iload_n 2, 1) := by decide +kernel
theorem dX6_listen_82 : decode cX6_listen 82 = .ok (.if_icmp .le 8, 3) := by decide +kernel
theorem dX6_listen_85 : decode cX6_listen 85 = .ok (.iload 5, 2) := by decide +kernel
theorem dX6_listen_87 : decode cX6_listen 87 = .ok (.goto 4, 3) := by decide +kernel
theorem dX6_listen_90 : decode cX6_listen 90 = .ok (.iload_n 2, 1) := by decide +kernel
theorem dX6_listen_91 : decode cX6_listen 91 = .ok (.istore_n 2, 1) := by decide +kernel
theorem dX6_listen_92 : decode cX6_listen 92 = .ok (.iinc 4 1, 3) := by decide +kernel
theorem dX6_listen_95 : decode cX6_listen 95 = .ok (.goto (-66), 3) := by decide +kernel
theorem dX6_listen_98 : decode cX6_listen 98 = .ok (.iinc 3 1, 3) := by decide +kernel
theorem dX6_listen_101 : decode cX6_listen 101 = .ok (.goto (-81), 3) := by decide +kernel
theorem dX6_listen_104 : decode cX6_listen 104 = .ok (.iload_n 1, 1) := by decide +kernel
theorem dX6_listen_105 : decode cX6_listen 105 = .ok (.ireturn, 1) := by decide +kernel
set_option maxRecDepth 20000 in
theorem ggX6_keep_X6_in : GoodIn wsX6_keep wsX6_in := goodIn_r _ [7] (by decide +kernel) (by decide +kernel)
set_option maxRecDepth 20000 in
theorem gX6_keep_X6_in : GoodIn wsX6_keep (va_wsS RX6 75 yX6_in wsX6_in) := goodIn_app (goodIn_of _ (by decide +kernel)) ggX6_keep_X6_in
set_option maxRecDepth 20000 in
theorem ggX6_keep_X6_sourceAt : GoodIn wsX6_keep wsX6_sourceAt := goodIn_r _ [11, 2, 12, 13, 14, 15, 16, 17, 18, 19, 20, 21, 22, 23, 24, 25, 26, 27, 28, 29, 30, 31, 32, 33] (by decide +kernel) (by decide +kernel)
set_option maxRecDepth 20000 in
theorem gX6_keep_X6_sourceAt : GoodIn wsX6_keep (wsV RX6 134 RX6 yX6_sourceAt wsX6_sourceAt) := goodIn_app (goodIn_of _ (by decide +kernel)) ggX6_keep_X6_sourceAt
theorem dX6_keep_0 : decode cX6_keep 0 = .ok (.iload_n 1, 1) := by decide +kernel
theorem dX6_keep_1 : decode cX6_keep 1 = .ok (.iconst 0, 1) := by decide +kernel
theorem dX6_keep_2 : decode cX6_keep 2 = .ok (.iconst 1, 1) := by decide +kernel
theorem dX6_keep_3 : decode cX6_keep 3 = .ok (.invokestatic 75, 3) := by decide +kernel
theorem dX6_keep_6 : decode cX6_keep 6 = .ok (.ifCond .ne 5, 3) := by decide +kernel
theorem dX6_keep_9 : decode cX6_keep 9 = .ok (.iconst (-1), 1) := by decide +kernel
theorem dX6_keep_10 : decode cX6_keep 10 = .ok (.ireturn, 1) := by decide +kernel
theorem dX6_keep_11 : decode cX6_keep 11 = .ok (.iconst 0, 1) := by decide +kernel
theorem dX6_keep_12 : decode cX6_keep 12 = .ok (.istore_n 2, 1) := by decide +kernel
theorem dX6_keep_13 : decode cX6_keep 13 = .ok (.iload_n 2, 1) := by decide +kernel
theorem dX6_keep_14 : decode cX6_keep 14 = .ok (.bipush 27, 2) := by decide +kernel
theorem dX6_keep_16 : decode cX6_keep 16 = .ok (.if_icmp .ge 26, 3) := by decide +kernel
theorem dX6_keep_19 : decode cX6_keep 19 = .ok (.aload_n 0, 1) := by decide +kernel
theorem dX6_keep_20 : decode cX6_keep 20 = .ok (.getfield 16, 3) := by decide +kernel
theorem dX6_keep_23 : decode cX6_keep 23 = .ok (.bipush 27, 2) := by decide +kernel
theorem dX6_keep_25 : decode cX6_keep 25 = .ok (.iload_n 1, 1) := by decide +kernel
theorem dX6_keep_26 : decode cX6_keep 26 = .ok (.imul, 1) := by decide +kernel
theorem dX6_keep_27 : decode cX6_keep 27 = .ok (.iload_n 2, 1) := by decide +kernel
theorem dX6_keep_28 : decode cX6_keep 28 = .ok (.iadd, 1) := by decide +kernel
theorem dX6_keep_29 : decode cX6_keep 29 = .ok (.aload_n 0, 1) := by decide +kernel
theorem dX6_keep_30 : decode cX6_keep 30 = .ok (.getfield 7, 3) := by decide +kernel
theorem dX6_keep_33 : decode cX6_keep 33 = .ok (.iload_n 2, 1) := by decide +kernel
theorem dX6_keep_34 : decode cX6_keep 34 = .ok (.iaload, 1) := by decide +kernel
theorem dX6_keep_35 : decode cX6_keep 35 = .ok (.iastore, 1) := by decide +kernel
theorem dX6_keep_36 : decode cX6_keep 36 = .ok (.iinc 2 1, 3) := by decide +kernel
theorem dX6_keep_39 : decode cX6_keep 39 = .ok (.goto (-26), 3) := by decide +kernel
theorem dX6_keep_42 : decode cX6_keep 42 = .ok (.aload_n 0, 1) := by decide +kernel
theorem dX6_keep_43 : decode cX6_keep 43 = .ok (.getfield 19, 3) := by decide +kernel
theorem dX6_keep_46 : decode cX6_keep 46 = .ok (.iload_n 1, 1) := by decide +kernel
theorem dX6_keep_47 : decode cX6_keep 47 = .ok (.iconst 1, 1) := by decide +kernel
theorem dX6_keep_48 : decode cX6_keep 48 = .ok (.bastore, 1) := by decide +kernel
theorem dX6_keep_49 : decode cX6_keep 49 = .ok (.aload_n 0, 1) := by decide +kernel
theorem dX6_keep_50 : decode cX6_keep 50 = .ok (.invokevirtual 134, 3) := by decide +kernel
theorem dX6_keep_53 : decode cX6_keep 53 = .ok (.ireturn, 1) := by decide +kernel
set_option maxRecDepth 20000 in
theorem ggX6_back_X6_in : GoodIn wsX6_back wsX6_in := goodIn_r _ [8] (by decide +kernel) (by decide +kernel)
set_option maxRecDepth 20000 in
theorem gX6_back_X6_in : GoodIn wsX6_back (va_wsS RX6 75 yX6_in wsX6_in) := goodIn_app (goodIn_of _ (by decide +kernel)) ggX6_back_X6_in
set_option maxRecDepth 20000 in
theorem ggX6_back_X6_sourceAt : GoodIn wsX6_back wsX6_sourceAt := goodIn_r _ [12, 2, 13, 14, 15, 16, 17, 18, 19, 20, 21, 22, 23, 24, 25, 26, 27, 28, 29, 30, 31, 32, 33, 34] (by decide +kernel) (by decide +kernel)
set_option maxRecDepth 20000 in
theorem gX6_back_X6_sourceAt : GoodIn wsX6_back (wsV RX6 134 RX6 yX6_sourceAt wsX6_sourceAt) := goodIn_app (goodIn_of _ (by decide +kernel)) ggX6_back_X6_sourceAt
theorem dX6_back_0 : decode cX6_back 0 = .ok (.iload_n 1, 1) := by decide +kernel
theorem dX6_back_1 : decode cX6_back 1 = .ok (.iconst 0, 1) := by decide +kernel
theorem dX6_back_2 : decode cX6_back 2 = .ok (.iconst 1, 1) := by decide +kernel
theorem dX6_back_3 : decode cX6_back 3 = .ok (.invokestatic 75, 3) := by decide +kernel
theorem dX6_back_6 : decode cX6_back 6 = .ok (.ifCond .ne 5, 3) := by decide +kernel
theorem dX6_back_9 : decode cX6_back 9 = .ok (.iconst (-1), 1) := by decide +kernel
theorem dX6_back_10 : decode cX6_back 10 = .ok (.ireturn, 1) := by decide +kernel
theorem dX6_back_11 : decode cX6_back 11 = .ok (.aload_n 0, 1) := by decide +kernel
theorem dX6_back_12 : decode cX6_back 12 = .ok (.getfield 19, 3) := by decide +kernel
theorem dX6_back_15 : decode cX6_back 15 = .ok (.iload_n 1, 1) := by decide +kernel
theorem dX6_back_16 : decode cX6_back 16 = .ok (.baload, 1) := by decide +kernel
theorem dX6_back_17 : decode cX6_back 17 = .ok (.ifCond .ne 6, 3) := by decide +kernel
theorem dX6_back_20 : decode cX6_back 20 = .ok (.bipush (-2), 2) := by decide +kernel
theorem dX6_back_22 : decode cX6_back 22 = .ok (.ireturn, 1) := by decide +kernel
theorem dX6_back_23 : decode cX6_back 23 = .ok (.iconst 0, 1) := by decide +kernel
theorem dX6_back_24 : decode cX6_back 24 = .ok (.istore_n 2, 1) := by decide +kernel
theorem dX6_back_25 : decode cX6_back 25 = .ok (.iload_n 2, 1) := by decide +kernel
theorem dX6_back_26 : decode cX6_back 26 = .ok (.bipush 27, 2) := by decide +kernel
theorem dX6_back_28 : decode cX6_back 28 = .ok (.if_icmp .ge 26, 3) := by decide +kernel
theorem dX6_back_31 : decode cX6_back 31 = .ok (.aload_n 0, 1) := by decide +kernel
theorem dX6_back_32 : decode cX6_back 32 = .ok (.getfield 7, 3) := by decide +kernel
theorem dX6_back_35 : decode cX6_back 35 = .ok (.iload_n 2, 1) := by decide +kernel
theorem dX6_back_36 : decode cX6_back 36 = .ok (.aload_n 0, 1) := by decide +kernel
theorem dX6_back_37 : decode cX6_back 37 = .ok (.getfield 16, 3) := by decide +kernel
theorem dX6_back_40 : decode cX6_back 40 = .ok (.bipush 27, 2) := by decide +kernel
theorem dX6_back_42 : decode cX6_back 42 = .ok (.iload_n 1, 1) := by decide +kernel
theorem dX6_back_43 : decode cX6_back 43 = .ok (.imul, 1) := by decide +kernel
theorem dX6_back_44 : decode cX6_back 44 = .ok (.iload_n 2, 1) := by decide +kernel
theorem dX6_back_45 : decode cX6_back 45 = .ok (.iadd, 1) := by decide +kernel
