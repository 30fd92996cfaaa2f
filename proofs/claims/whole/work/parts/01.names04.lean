set_option maxRecDepth 20000 in
theorem ggX6_init_X6_begins : GoodIn wsX6_init wsX6_begins := goodIn_r _ [27, 6, 34, 35, 36, 37, 38, 39, 40, 41, 42, 43, 44, 45, 46, 47, 48, 49, 50, 51, 52, 53, 54, 55] (by decide +kernel) (by decide +kernel)
set_option maxRecDepth 20000 in
theorem gX6_init_X6_begins : GoodIn wsX6_init (wsV RX6 62 RX6 yX6_begins wsX6_begins) := goodIn_app (goodIn_of _ (by decide +kernel)) ggX6_init_X6_begins
set_option maxRecDepth 20000 in
theorem ggX6_init_X6_becomes : GoodIn wsX6_init wsX6_becomes := goodIn_r _ [31, 5, 6, 9, 32, 33, 34, 35, 36, 37, 38, 39, 40, 41, 42, 43, 44, 45, 46, 47, 48, 49, 50, 51, 52, 53, 54, 55] (by decide +kernel) (by decide +kernel)
set_option maxRecDepth 20000 in
theorem gX6_init_X6_becomes : GoodIn wsX6_init (wsV RX6 65 RX6 yX6_becomes wsX6_becomes) := goodIn_app (goodIn_of _ (by decide +kernel)) ggX6_init_X6_becomes
theorem dX6_init_0 : decode cX6_init 0 = .ok (.aload_n 0, 1) := by decide +kernel
theorem dX6_init_1 : decode cX6_init 1 = .ok (.invokespecial 1, 3) := by decide +kernel
theorem dX6_init_4 : decode cX6_init 4 = .ok (.aload_n 0, 1) := by decide +kernel
theorem dX6_init_5 : decode cX6_init 5 = .ok (.bipush 27, 2) := by decide +kernel
theorem dX6_init_7 : decode cX6_init 7 = .ok (.newarray .int, 2) := by decide +kernel
theorem dX6_init_9 : decode cX6_init 9 = .ok (.putfield 7, 3) := by decide +kernel
theorem dX6_init_12 : decode cX6_init 12 = .ok (.aload_n 0, 1) := by decide +kernel
theorem dX6_init_13 : decode cX6_init 13 = .ok (.bipush 27, 2) := by decide +kernel
theorem dX6_init_15 : decode cX6_init 15 = .ok (.newarray .int, 2) := by decide +kernel
theorem dX6_init_17 : decode cX6_init 17 = .ok (.putfield 13, 3) := by decide +kernel
theorem dX6_init_20 : decode cX6_init 20 = .ok (.aload_n 0, 1) := by decide +kernel
theorem dX6_init_21 : decode cX6_init 21 = .ok (.bipush 54, 2) := by decide +kernel
theorem dX6_init_23 : decode cX6_init 23 = .ok (.newarray .int, 2) := by decide +kernel
theorem dX6_init_25 : decode cX6_init 25 = .ok (.putfield 16, 3) := by decide +kernel
theorem dX6_init_28 : decode cX6_init 28 = .ok (.aload_n 0, 1) := by decide +kernel
theorem dX6_init_29 : decode cX6_init 29 = .ok (.iconst 2, 1) := by decide +kernel
theorem dX6_init_30 : decode cX6_init 30 = .ok (.newarray .boolean, 2) := by decide +kernel
theorem dX6_init_32 : decode cX6_init 32 = .ok (.putfield 19, 3) := by decide +kernel
theorem dX6_init_35 : decode cX6_init 35 = .ok (.aload_n 0, 1) := by decide +kernel
theorem dX6_init_36 : decode cX6_init 36 = .ok (.bipush 40, 2) := by decide +kernel
theorem dX6_init_38 : decode cX6_init 38 = .ok (.newarray .int, 2) := by decide +kernel
theorem dX6_init_40 : decode cX6_init 40 = .ok (.putfield 23, 3) := by decide +kernel
theorem dX6_init_43 : decode cX6_init 43 = .ok (.aload_n 0, 1) := by decide +kernel
theorem dX6_init_44 : decode cX6_init 44 = .ok (.iconst 4, 1) := by decide +kernel
theorem dX6_init_45 : decode cX6_init 45 = .ok (.newarray .int, 2) := by decide +kernel
theorem dX6_init_47 : decode cX6_init 47 = .ok (.putfield 26, 3) := by decide +kernel
theorem dX6_init_50 : decode cX6_init 50 = .ok (.aload_n 0, 1) := by decide +kernel
theorem dX6_init_51 : decode cX6_init 51 = .ok (.iconst 4, 1) := by decide +kernel
theorem dX6_init_52 : decode cX6_init 52 = .ok (.newarray .int, 2) := by decide +kernel
theorem dX6_init_54 : decode cX6_init 54 = .ok (.putfield 29, 3) := by decide +kernel
theorem dX6_init_57 : decode cX6_init 57 = .ok (.aload_n 0, 1) := by decide +kernel
theorem dX6_init_58 : decode cX6_init 58 = .ok (.iconst 4, 1) := by decide +kernel
theorem dX6_init_59 : decode cX6_init 59 = .ok (.newarray .int, 2) := by decide +kernel
theorem dX6_init_61 : decode cX6_init 61 = .ok (.putfield 32, 3) := by decide +kernel
theorem dX6_init_64 : decode cX6_init 64 = .ok (.aload_n 0, 1) := by decide +kernel
theorem dX6_init_65 : decode cX6_init 65 = .ok (.bipush 100, 2) := by decide +kernel
theorem dX6_init_67 : decode cX6_init 67 = .ok (.newarray .int, 2) := by decide +kernel
theorem dX6_init_69 : decode cX6_init 69 = .ok (.putfield 35, 3) := by decide +kernel
theorem dX6_init_72 : decode cX6_init 72 = .ok (.aload_n 0, 1) := by decide +kernel
theorem dX6_init_73 : decode cX6_init 73 = .ok (.bipush 100, 2) := by decide +kernel
theorem dX6_init_75 : decode cX6_init 75 = .ok (.newarray .int, 2) := by decide +kernel
theorem dX6_init_77 : decode cX6_init 77 = .ok (.putfield 38, 3) := by decide +kernel
theorem dX6_init_80 : decode cX6_init 80 = .ok (.aload_n 0, 1) := by decide +kernel
theorem dX6_init_81 : decode cX6_init 81 = .ok (.bipush 100, 2) := by decide +kernel
theorem dX6_init_83 : decode cX6_init 83 = .ok (.newarray .int, 2) := by decide +kernel
theorem dX6_init_85 : decode cX6_init 85 = .ok (.putfield 41, 3) := by decide +kernel
theorem dX6_init_88 : decode cX6_init 88 = .ok (.aload_n 0, 1) := by decide +kernel
theorem dX6_init_89 : decode cX6_init 89 = .ok (.bipush 100, 2) := by decide +kernel
theorem dX6_init_91 : decode cX6_init 91 = .ok (.newarray .int, 2) := by decide +kernel
theorem dX6_init_93 : decode cX6_init 93 = .ok (.putfield 44, 3) := by decide +kernel
theorem dX6_init_96 : decode cX6_init 96 = .ok (.aload_n 0, 1) := by decide +kernel
theorem dX6_init_97 : decode cX6_init 97 = .ok (.iconst 4, 1) := by decide +kernel
theorem dX6_init_98 : decode cX6_init 98 = .ok (.newarray .int, 2) := by decide +kernel
theorem dX6_init_100 : decode cX6_init 100 = .ok (.putfield 47, 3) := by decide +kernel
theorem dX6_init_103 : decode cX6_init 103 = .ok (.aload_n 0, 1) := by decide +kernel
theorem dX6_init_104 : decode cX6_init 104 = .ok (.bipush 25, 2) := by decide +kernel
theorem dX6_init_106 : decode cX6_init 106 = .ok (.newarray .int, 2) := by decide +kernel
theorem dX6_init_108 : decode cX6_init 108 = .ok (.putfield 50, 3) := by decide +kernel
theorem dX6_init_111 : decode cX6_init 111 = .ok (.aload_n 0, 1) := by decide +kernel
theorem dX6_init_112 : decode cX6_init 112 = .ok (.bipush 25, 2) := by decide +kernel
theorem dX6_init_114 : decode cX6_init 114 = .ok (.newarray .int, 2) := by decide +kernel
theorem dX6_init_116 : decode cX6_init 116 = .ok (.putfield 53, 3) := by decide +kernel
theorem dX6_init_119 : decode cX6_init 119 = .ok (.aload_n 0, 1) := by decide +kernel
theorem dX6_init_120 : decode cX6_init 120 = .ok (.bipush 25, 2) := by decide +kernel
theorem dX6_init_122 : decode cX6_init 122 = .ok (.newarray .int, 2) := by decide +kernel
theorem dX6_init_124 : decode cX6_init 124 = .ok (.putfield 56, 3) := by decide +kernel
theorem dX6_init_127 : decode cX6_init 127 = .ok (.aload_n 0, 1) := by decide +kernel
theorem dX6_init_128 : decode cX6_init 128 = .ok (.sipush 2000, 3) := by decide +kernel
theorem dX6_init_131 : decode cX6_init 131 = .ok (.newarray .boolean, 2) := by decide +kernel
theorem dX6_init_133 : decode cX6_init 133 = .ok (.putfield 59, 3) := by decide +kernel
theorem dX6_init_136 : decode cX6_init 136 = .ok (.aload_n 0, 1) := by decide +kernel
theorem dX6_init_137 : decode cX6_init 137 = .ok (.invokevirtual 62, 3) := by decide +kernel
theorem dX6_init_140 : decode cX6_init 140 = .ok (.aload_n 0, 1) := by decide +kernel
theorem dX6_init_141 : decode cX6_init 141 = .ok (.invokevirtual 65, 3) := by decide +kernel
theorem dX6_init_144 : decode cX6_init 144 = .ok (.return_, 1) := by decide +kernel
theorem dX6_in_0 : decode cX6_in 0 = .ok (.iload_n 0, 1) := by decide +kernel
theorem dX6_in_1 : decode cX6_in 1 = .ok (.iload_n 1, 1) := by decide +kernel
theorem dX6_in_2 : decode cX6_in 2 = .ok (.if_icmp .lt 12, 3) := by decide +kernel
theorem dX6_in_5 : decode cX6_in 5 = .ok (.iload_n 0, 1) := by decide +kernel
theorem dX6_in_6 : decode cX6_in 6 = .ok (.iload_n 2, 1) := by decide +kernel
theorem dX6_in_7 : decode cX6_in 7 = .ok (.if_icmp .gt 7, 3) := by decide +kernel
theorem dX6_in_10 : decode cX6_in 10 = .ok (.iconst 1, 1) := by decide +kernel
theorem dX6_in_11 : decode cX6_in 11 = .ok (.goto 4, 3) := by decide +kernel
theorem dX6_in_14 : decode cX6_in 14 = .ok (.iconst 0, 1) := by decide +kernel
theorem dX6_in_15 : decode cX6_in 15 = .ok (.ireturn, 1) := by decide +kernel
theorem dX6_size_0 : decode cX6_size 0 = .ok (.iload_n 0, 1) := by decide +kernel
theorem dX6_size_1 : decode cX6_size 1 = .ok (.ifCond .ge 8, 3) := by decide +kernel
theorem dX6_size_4 : decode cX6_size 4 = .ok (.iload_n 0, 1) := by decide +kernel
theorem dX6_size_5 : decode cX6_size 5 = .ok (.ineg, 1) := by decide +kernel
theorem dX6_size_6 : decode cX6_size 6 = .ok (.goto 4, 3) := by decide +kernel
theorem dX6_size_9 : decode cX6_size 9 = .ok (.iload_n 0, 1) := by decide +kernel
theorem dX6_size_10 : decode cX6_size 10 = .ok (.ireturn, 1) := by decide +kernel
theorem dX6_begins_0 : decode cX6_begins 0 = .ok (.iconst 0, 1) := by decide +kernel
theorem dX6_begins_1 : decode cX6_begins 1 = .ok (.istore_n 1, 1) := by decide +kernel
theorem dX6_begins_2 : decode cX6_begins 2 = .ok (.iload_n 1, 1) := by decide +kernel
theorem dX6_begins_3 : decode cX6_begins 3 = .ok (.bipush 27, 2) := by decide +kernel
theorem dX6_begins_5 : decode cX6_begins 5 = .ok (.if_icmp .ge 31, 3) := by decide +kernel
theorem dX6_begins_8 : decode cX6_begins 8 = .ok (.aload_n 0, 1) := by decide +kernel
theorem dX6_begins_9 : decode cX6_begins 9 = .ok (.getfield 13, 3) := by decide +kernel
theorem dX6_begins_12 : decode cX6_begins 12 = .ok (.iload_n 1, 1) := by decide +kernel
theorem dX6_begins_13 : decode cX6_begins 13 = .ok (.iload_n 1, 1) := by decide +kernel
theorem dX6_begins_14 : decode cX6_begins 14 = .ok (.iconst 4, 1) := by decide +kernel
theorem dX6_begins_15 : decode cX6_begins 15 = .ok (.if_icmp .lt 13, 3) := by decide +kernel
theorem dX6_begins_18 : decode cX6_begins 18 = .ok (.iload_n 1, 1) := by decide +kernel
theorem dX6_begins_19 : decode cX6_begins 19 = .ok (.bipush 8, 2) := by decide +kernel
theorem dX6_begins_21 : decode cX6_begins 21 = .ok (.if_icmp .ge 7, 3) := by decide +kernel
theorem dX6_begins_24 : decode cX6_begins 24 = .ok (.iconst 2, 1) := by decide +kernel
theorem dX6_begins_25 : decode cX6_begins 25 = .ok (.goto 4, 3) := by decide +kernel
theorem dX6_begins_28 : decode cX6_begins 28 = .ok (.iconst 0, 1) := by decide +kernel
theorem dX6_begins_29 : decode cX6_begins 29 = .ok (.iastore, 1) := by decide +kernel
theorem dX6_begins_30 : decode cX6_begins 30 = .ok (.iinc 1 1, 3) := by decide +kernel
theorem dX6_begins_33 : decode cX6_begins 33 = .ok (.goto (-31), 3) := by decide +kernel
theorem dX6_begins_36 : decode cX6_begins 36 = .ok (.aload_n 0, 1) := by decide +kernel
theorem dX6_begins_37 : decode cX6_begins 37 = .ok (.getfield 13, 3) := by decide +kernel
theorem dX6_begins_40 : decode cX6_begins 40 = .ok (.iconst 0, 1) := by decide +kernel
theorem dX6_begins_41 : decode cX6_begins 41 = .ok (.bipush 10, 2) := by decide +kernel
theorem dX6_begins_43 : decode cX6_begins 43 = .ok (.iastore, 1) := by decide +kernel
theorem dX6_begins_44 : decode cX6_begins 44 = .ok (.aload_n 0, 1) := by decide +kernel
theorem dX6_begins_45 : decode cX6_begins 45 = .ok (.getfield 13, 3) := by decide +kernel
theorem dX6_begins_48 : decode cX6_begins 48 = .ok (.iconst 1, 1) := by decide +kernel
theorem dX6_begins_49 : decode cX6_begins 49 = .ok (.bipush 8, 2) := by decide +kernel
theorem dX6_begins_51 : decode cX6_begins 51 = .ok (.iastore, 1) := by decide +kernel
theorem dX6_begins_52 : decode cX6_begins 52 = .ok (.aload_n 0, 1) := by decide +kernel
theorem dX6_begins_53 : decode cX6_begins 53 = .ok (.getfield 13, 3) := by decide +kernel
theorem dX6_begins_56 : decode cX6_begins 56 = .ok (.iconst 2, 1) := by decide +kernel
theorem dX6_begins_57 : decode cX6_begins 57 = .ok (.iconst 1, 1) := by decide +kernel
theorem dX6_begins_58 : decode cX6_begins 58 = .ok (.iastore, 1) := by decide +kernel
theorem dX6_begins_59 : decode cX6_begins 59 = .ok (.aload_n 0, 1) := by decide +kernel
theorem dX6_begins_60 : decode cX6_begins 60 = .ok (.getfield 13, 3) := by decide +kernel
theorem dX6_begins_63 : decode cX6_begins 63 = .ok (.iconst 3, 1) := by decide +kernel
theorem dX6_begins_64 : decode cX6_begins 64 = .ok (.iconst 1, 1) := by decide +kernel
theorem dX6_begins_65 : decode cX6_begins 65 = .ok (.iastore, 1) := by decide +kernel
theorem dX6_begins_66 : decode cX6_begins 66 = .ok (.return_, 1) := by decide +kernel
theorem dX6_becomes_0 : decode cX6_becomes 0 = .ok (.iconst 0, 1) := by decide +kernel
theorem dX6_becomes_1 : decode cX6_becomes 1 = .ok (.istore_n 1, 1) := by decide +kernel
theorem dX6_becomes_2 : decode cX6_becomes 2 = .ok (.iload_n 1, 1) := by decide +kernel
theorem dX6_becomes_3 : decode cX6_becomes 3 = .ok (.bipush 27, 2) := by decide +kernel
theorem dX6_becomes_5 : decode cX6_becomes 5 = .ok (.if_icmp .ge 21, 3) := by decide +kernel
theorem dX6_becomes_8 : decode cX6_becomes 8 = .ok (.aload_n 0, 1) := by decide +kernel
theorem dX6_becomes_9 : decode cX6_becomes 9 = .ok (.getfield 7, 3) := by decide +kernel
theorem dX6_becomes_12 : decode cX6_becomes 12 = .ok (.iload_n 1, 1) := by decide +kernel
theorem dX6_becomes_13 : decode cX6_becomes 13 = .ok (.aload_n 0, 1) := by decide +kernel
theorem dX6_becomes_14 : decode cX6_becomes 14 = .ok (.getfield 13, 3) := by decide +kernel
theorem dX6_becomes_17 : decode cX6_becomes 17 = .ok (.iload_n 1, 1) := by decide +kernel
theorem dX6_becomes_18 : decode cX6_becomes 18 = .ok (.iaload, 1) := by decide +kernel
theorem dX6_becomes_19 : decode cX6_becomes 19 = .ok (.iastore, 1) := by decide +kernel
theorem dX6_becomes_20 : decode cX6_becomes 20 = .ok (.iinc 1 1, 3) := by decide +kernel
theorem dX6_becomes_23 : decode cX6_becomes 23 = .ok (.goto (-21), 3) := by decide +kernel
theorem dX6_becomes_26 : decode cX6_becomes 26 = .ok (.aload_n 0, 1) := by decide +kernel
theorem dX6_becomes_27 : decode cX6_becomes 27 = .ok (.getfield 19, 3) := by decide +kernel
theorem dX6_becomes_30 : decode cX6_becomes 30 = .ok (.iconst 0, 1) := by decide +kernel
theorem dX6_becomes_31 : decode cX6_becomes 31 = .ok (.iconst 0, 1) := by decide +kernel
theorem dX6_becomes_32 : decode cX6_becomes 32 = .ok (.bastore, 1) := by decide +kernel
theorem dX6_becomes_33 : decode cX6_becomes 33 = .ok (.aload_n 0, 1) := by decide +kernel
theorem dX6_becomes_34 : decode cX6_becomes 34 = .ok (.getfield 19, 3) := by decide +kernel
theorem dX6_becomes_37 : decode cX6_becomes 37 = .ok (.iconst 1, 1) := by decide +kernel
theorem dX6_becomes_38 : decode cX6_becomes 38 = .ok (.iconst 0, 1) := by decide +kernel
theorem dX6_becomes_39 : decode cX6_becomes 39 = .ok (.bastore, 1) := by decide +kernel
theorem dX6_becomes_40 : decode cX6_becomes 40 = .ok (.aload_n 0, 1) := by decide +kernel
theorem dX6_becomes_41 : decode cX6_becomes 41 = .ok (.iconst 0, 1) := by decide +kernel
theorem dX6_becomes_42 : decode cX6_becomes 42 = .ok (.putfield 68, 3) := by decide +kernel
theorem dX6_becomes_45 : decode cX6_becomes 45 = .ok (.aload_n 0, 1) := by decide +kernel
theorem dX6_becomes_46 : decode cX6_becomes 46 = .ok (.iconst 0, 1) := by decide +kernel
theorem dX6_becomes_47 : decode cX6_becomes 47 = .ok (.putfield 72, 3) := by decide +kernel
theorem dX6_becomes_50 : decode cX6_becomes 50 = .ok (.return_, 1) := by decide +kernel
set_option maxRecDepth 20000 in
theorem ggX6_isWithin_X6_in : GoodIn wsX6_isWithin wsX6_in := goodIn_r _ [5] (by decide +kernel) (by decide +kernel)
set_option maxRecDepth 20000 in
theorem gX6_isWithin_X6_in : GoodIn wsX6_isWithin (va_wsS RX6 75 yX6_in wsX6_in) := goodIn_app (goodIn_of _ (by decide +kernel)) ggX6_isWithin_X6_in
theorem dX6_isWithin_0 : decode cX6_isWithin 0 = .ok (.iload_n 1, 1) := by decide +kernel
theorem dX6_isWithin_1 : decode cX6_isWithin 1 = .ok (.iconst 0, 1) := by decide +kernel
theorem dX6_isWithin_2 : decode cX6_isWithin 2 = .ok (.aload_n 0, 1) := by decide +kernel
theorem dX6_isWithin_3 : decode cX6_isWithin 3 = .ok (.getfield 7, 3) := by decide +kernel
theorem dX6_isWithin_6 : decode cX6_isWithin 6 = .ok (.iconst 0, 1) := by decide +kernel
theorem dX6_isWithin_7 : decode cX6_isWithin 7 = .ok (.iaload, 1) := by decide +kernel
theorem dX6_isWithin_8 : decode cX6_isWithin 8 = .ok (.invokestatic 75, 3) := by decide +kernel
theorem dX6_isWithin_11 : decode cX6_isWithin 11 = .ok (.ifCond .eq 21, 3) := by decide +kernel
theorem dX6_isWithin_14 : decode cX6_isWithin 14 = .ok (.iload_n 2, 1) := by decide +kernel
theorem dX6_isWithin_15 : decode cX6_isWithin 15 = .ok (.iconst 0, 1) := by decide +kernel
theorem dX6_isWithin_16 : decode cX6_isWithin 16 = .ok (.aload_n 0, 1) := by decide +kernel
theorem dX6_isWithin_17 : decode cX6_isWithin 17 = .ok (.getfield 7, 3) := by decide +kernel
theorem dX6_isWithin_20 : decode cX6_isWithin 20 = .ok (.iconst 1, 1) := by decide +kernel
theorem dX6_isWithin_21 : decode cX6_isWithin 21 = .ok (.iaload, 1) := by decide +kernel
theorem dX6_isWithin_22 : decode cX6_isWithin 22 = .ok (.invokestatic 75, 3) := by decide +kernel
theorem dX6_isWithin_25 : decode cX6_isWithin 25 = .ok (.ifCond .eq 7, 3) := by decide +kernel
theorem dX6_isWithin_28 : decode cX6_isWithin 28 = .ok (.iconst 1, 1) := by decide +kernel
theorem dX6_isWithin_29 : decode cX6_isWithin 29 = .ok (.goto 4, 3) := by decide +kernel
theorem dX6_isWithin_32 : decode cX6_isWithin 32 = .ok (.iconst 0, 1) := by decide +kernel
theorem dX6_isWithin_33 : decode cX6_isWithin 33 = .ok (.ireturn, 1) := by decide +kernel
set_option maxRecDepth 20000 in
theorem ggX6_isSeat_X6_in : GoodIn wsX6_isSeat wsX6_in := goodIn_r _ [5] (by decide +kernel) (by decide +kernel)
set_option maxRecDepth 20000 in
theorem gX6_isSeat_X6_in : GoodIn wsX6_isSeat (va_wsS RX6 75 yX6_in wsX6_in) := goodIn_app (goodIn_of _ (by decide +kernel)) ggX6_isSeat_X6_in
theorem dX6_isSeat_0 : decode cX6_isSeat 0 = .ok (.iload_n 1, 1) := by decide +kernel
theorem dX6_isSeat_1 : decode cX6_isSeat 1 = .ok (.iconst 0, 1) := by decide +kernel
theorem dX6_isSeat_2 : decode cX6_isSeat 2 = .ok (.aload_n 0, 1) := by decide +kernel
theorem dX6_isSeat_3 : decode cX6_isSeat 3 = .ok (.getfield 7, 3) := by decide +kernel
theorem dX6_isSeat_6 : decode cX6_isSeat 6 = .ok (.bipush 8, 2) := by decide +kernel
theorem dX6_isSeat_8 : decode cX6_isSeat 8 = .ok (.iaload, 1) := by decide +kernel
theorem dX6_isSeat_9 : decode cX6_isSeat 9 = .ok (.iconst 1, 1) := by decide +kernel
theorem dX6_isSeat_10 : decode cX6_isSeat 10 = .ok (.isub, 1) := by decide +kernel
theorem dX6_isSeat_11 : decode cX6_isSeat 11 = .ok (.invokestatic 75, 3) := by decide +kernel
theorem dX6_isSeat_14 : decode cX6_isSeat 14 = .ok (.ireturn, 1) := by decide +kernel
set_option maxRecDepth 20000 in
theorem ggX6_isCurtain_X6_in : GoodIn wsX6_isCurtain wsX6_in := goodIn_r _ [5] (by decide +kernel) (by decide +kernel)
set_option maxRecDepth 20000 in
theorem gX6_isCurtain_X6_in : GoodIn wsX6_isCurtain (va_wsS RX6 75 yX6_in wsX6_in) := goodIn_app (goodIn_of _ (by decide +kernel)) ggX6_isCurtain_X6_in
theorem dX6_isCurtain_0 : decode cX6_isCurtain 0 = .ok (.iload_n 1, 1) := by decide +kernel
theorem dX6_isCurtain_1 : decode cX6_isCurtain 1 = .ok (.iconst 0, 1) := by decide +kernel
theorem dX6_isCurtain_2 : decode cX6_isCurtain 2 = .ok (.aload_n 0, 1) := by decide +kernel
theorem dX6_isCurtain_3 : decode cX6_isCurtain 3 = .ok (.getfield 7, 3) := by decide +kernel
theorem dX6_isCurtain_6 : decode cX6_isCurtain 6 = .ok (.bipush 17, 2) := by decide +kernel
theorem dX6_isCurtain_8 : decode cX6_isCurtain 8 = .ok (.iaload, 1) := by decide +kernel
theorem dX6_isCurtain_9 : decode cX6_isCurtain 9 = .ok (.iconst 1, 1) := by decide +kernel
theorem dX6_isCurtain_10 : decode cX6_isCurtain 10 = .ok (.isub, 1) := by decide +kernel
theorem dX6_isCurtain_11 : decode cX6_isCurtain 11 = .ok (.invokestatic 75, 3) := by decide +kernel
theorem dX6_isCurtain_14 : decode cX6_isCurtain 14 = .ok (.ireturn, 1) := by decide +kernel
set_option maxRecDepth 20000 in
theorem ggX6_isImage_X6_in : GoodIn wsX6_isImage wsX6_in := goodIn_r _ [4] (by decide +kernel) (by decide +kernel)
set_option maxRecDepth 20000 in
theorem gX6_isImage_X6_in : GoodIn wsX6_isImage (va_wsS RX6 75 yX6_in wsX6_in) := goodIn_app (goodIn_of _ (by decide +kernel)) ggX6_isImage_X6_in
set_option maxRecDepth 20000 in
theorem ggX6_isImage_X6_size : GoodIn wsX6_isImage wsX6_size := goodIn_r _ [7] (by decide +kernel) (by decide +kernel)
set_option maxRecDepth 20000 in
theorem gX6_isImage_X6_size : GoodIn wsX6_isImage (va_wsS RX6 79 yX6_size wsX6_size) := goodIn_app (goodIn_of _ (by decide +kernel)) ggX6_isImage_X6_size
theorem dX6_isImage_0 : decode cX6_isImage 0 = .ok (.iload_n 0, 1) := by decide +kernel
theorem dX6_isImage_1 : decode cX6_isImage 1 = .ok (.bipush (-3), 2) := by decide +kernel
theorem dX6_isImage_3 : decode cX6_isImage 3 = .ok (.iconst 3, 1) := by decide +kernel
theorem dX6_isImage_4 : decode cX6_isImage 4 = .ok (.invokestatic 75, 3) := by decide +kernel
theorem dX6_isImage_7 : decode cX6_isImage 7 = .ok (.ifCond .eq 30, 3) := by decide +kernel
theorem dX6_isImage_10 : decode cX6_isImage 10 = .ok (.iload_n 1, 1) := by decide +kernel
theorem dX6_isImage_11 : decode cX6_isImage 11 = .ok (.bipush (-3), 2) := by decide +kernel
theorem dX6_isImage_13 : decode cX6_isImage 13 = .ok (.iconst 3, 1) := by decide +kernel
theorem dX6_isImage_14 : decode cX6_isImage 14 = .ok (.invokestatic 75, 3) := by decide +kernel
theorem dX6_isImage_17 : decode cX6_isImage 17 = .ok (.ifCond .eq 20, 3) := by decide +kernel
theorem dX6_isImage_20 : decode cX6_isImage 20 = .ok (.iload_n 0, 1) := by decide +kernel
theorem dX6_isImage_21 : decode cX6_isImage 21 = .ok (.invokestatic 79, 3) := by decide +kernel
theorem dX6_isImage_24 : decode cX6_isImage 24 = .ok (.iload_n 1, 1) := by decide +kernel
theorem dX6_isImage_25 : decode cX6_isImage 25 = .ok (.invokestatic 79, 3) := by decide +kernel
theorem dX6_isImage_28 : decode cX6_isImage 28 = .ok (.iadd, 1) := by decide +kernel
theorem dX6_isImage_29 : decode cX6_isImage 29 = .ok (.iconst 3, 1) := by decide +kernel
theorem dX6_isImage_30 : decode cX6_isImage 30 = .ok (.if_icmp .gt 7, 3) := by decide +kernel
theorem dX6_isImage_33 : decode cX6_isImage 33 = .ok (.iconst 1, 1) := by decide +kernel
theorem dX6_isImage_34 : decode cX6_isImage 34 = .ok (.goto 4, 3) := by decide +kernel
theorem dX6_isImage_37 : decode cX6_isImage 37 = .ok (.iconst 0, 1) := by decide +kernel
theorem dX6_isImage_38 : decode cX6_isImage 38 = .ok (.ireturn, 1) := by decide +kernel
set_option maxRecDepth 20000 in
theorem ggX6_type_X6_in : GoodIn wsX6_type wsX6_in := goodIn_r _ [6] (by decide +kernel) (by decide +kernel)
set_option maxRecDepth 20000 in
theorem gX6_type_X6_in : GoodIn wsX6_type (va_wsS RX6 75 yX6_in wsX6_in) := goodIn_app (goodIn_of _ (by decide +kernel)) ggX6_type_X6_in
theorem dX6_type_0 : decode cX6_type 0 = .ok (.iload_n 1, 1) := by decide +kernel
theorem dX6_type_1 : decode cX6_type 1 = .ok (.iconst 0, 1) := by decide +kernel
theorem dX6_type_2 : decode cX6_type 2 = .ok (.sipush 255, 3) := by decide +kernel
theorem dX6_type_5 : decode cX6_type 5 = .ok (.invokestatic 75, 3) := by decide +kernel
theorem dX6_type_8 : decode cX6_type 8 = .ok (.ifCond .ne 5, 3) := by decide +kernel
theorem dX6_type_11 : decode cX6_type 11 = .ok (.iconst (-1), 1) := by decide +kernel
theorem dX6_type_12 : decode cX6_type 12 = .ok (.ireturn, 1) := by decide +kernel
theorem dX6_type_13 : decode cX6_type 13 = .ok (.aload_n 0, 1) := by decide +kernel
theorem dX6_type_14 : decode cX6_type 14 = .ok (.getfield 83, 3) := by decide +kernel
theorem dX6_type_17 : decode cX6_type 17 = .ok (.bipush 100, 2) := by decide +kernel
theorem dX6_type_19 : decode cX6_type 19 = .ok (.if_icmp .ne 6, 3) := by decide +kernel
theorem dX6_type_22 : decode cX6_type 22 = .ok (.bipush (-3), 2) := by decide +kernel
theorem dX6_type_24 : decode cX6_type 24 = .ok (.ireturn, 1) := by decide +kernel
theorem dX6_type_25 : decode cX6_type 25 = .ok (.aload_n 0, 1) := by decide +kernel
theorem dX6_type_26 : decode cX6_type 26 = .ok (.getfield 35, 3) := by decide +kernel
theorem dX6_type_29 : decode cX6_type 29 = .ok (.aload_n 0, 1) := by decide +kernel
theorem dX6_type_30 : decode cX6_type 30 = .ok (.getfield 83, 3) := by decide +kernel
theorem dX6_type_33 : decode cX6_type 33 = .ok (.iload_n 1, 1) := by decide +kernel
theorem dX6_type_34 : decode cX6_type 34 = .ok (.iastore, 1) := by decide +kernel
theorem dX6_type_35 : decode cX6_type 35 = .ok (.aload_n 0, 1) := by decide +kernel
theorem dX6_type_36 : decode cX6_type 36 = .ok (.dup, 1) := by decide +kernel
theorem dX6_type_37 : decode cX6_type 37 = .ok (.getfield 83, 3) := by decide +kernel
theorem dX6_type_40 : decode cX6_type 40 = .ok (.iconst 1, 1) := by decide +kernel
theorem dX6_type_41 : decode cX6_type 41 = .ok (.iadd, 1) := by decide +kernel
theorem dX6_type_42 : decode cX6_type 42 = .ok (.putfield 83, 3) := by decide +kernel
theorem dX6_type_45 : decode cX6_type 45 = .ok (.aload_n 0, 1) := by decide +kernel
theorem dX6_type_46 : decode cX6_type 46 = .ok (.getfield 83, 3) := by decide +kernel
theorem dX6_type_49 : decode cX6_type 49 = .ok (.ireturn, 1) := by decide +kernel
theorem dX6_clear_0 : decode cX6_clear 0 = .ok (.aload_n 0, 1) := by decide +kernel
theorem dX6_clear_1 : decode cX6_clear 1 = .ok (.getfield 83, 3) := by decide +kernel
theorem dX6_clear_4 : decode cX6_clear 4 = .ok (.istore_n 1, 1) := by decide +kernel
theorem dX6_clear_5 : decode cX6_clear 5 = .ok (.aload_n 0, 1) := by decide +kernel
theorem dX6_clear_6 : decode cX6_clear 6 = .ok (.iconst 0, 1) := by decide +kernel
theorem dX6_clear_7 : decode cX6_clear 7 = .ok (.putfield 83, 3) := by decide +kernel
theorem dX6_clear_10 : decode cX6_clear 10 = .ok (.iload_n 1, 1) := by decide +kernel
theorem dX6_clear_11 : decode cX6_clear 11 = .ok (.ireturn, 1) := by decide +kernel
set_option maxRecDepth 20000 in
theorem ggX6_isFigure_X6_in : GoodIn wsX6_isFigure wsX6_in := goodIn_r _ [4] (by decide +kernel) (by decide +kernel)
set_option maxRecDepth 20000 in
theorem gX6_isFigure_X6_in : GoodIn wsX6_isFigure (va_wsS RX6 75 yX6_in wsX6_in) := goodIn_app (goodIn_of _ (by decide +kernel)) ggX6_isFigure_X6_in
theorem dX6_isFigure_0 : decode cX6_isFigure 0 = .ok (.iload_n 0, 1) := by decide +kernel
theorem dX6_isFigure_1 : decode cX6_isFigure 1 = .ok (.bipush 48, 2) := by decide +kernel
theorem dX6_isFigure_3 : decode cX6_isFigure 3 = .ok (.bipush 57, 2) := by decide +kernel
theorem dX6_isFigure_5 : decode cX6_isFigure 5 = .ok (.invokestatic 75, 3) := by decide +kernel
theorem dX6_isFigure_8 : decode cX6_isFigure 8 = .ok (.ireturn, 1) := by decide +kernel
set_option maxRecDepth 20000 in
theorem ggX6_numbered_X6_isFigure : GoodIn wsX6_numbered wsX6_isFigure := goodIn_r _ [9, 10, 11, 8, 12] (by decide +kernel) (by decide +kernel)
set_option maxRecDepth 20000 in
theorem gX6_numbered_X6_isFigure : GoodIn wsX6_numbered (va_wsS RX6 86 yX6_isFigure wsX6_isFigure) := goodIn_app (goodIn_of _ (by decide +kernel)) ggX6_numbered_X6_isFigure
theorem dX6_numbered_0 : decode cX6_numbered 0 = .ok (.iload_n 1, 1) := by decide +kernel
theorem dX6_numbered_1 : decode cX6_numbered 1 = .ok (.istore_n 2, 1) := by decide +kernel
theorem dX6_numbered_2 : decode cX6_numbered 2 = .ok (.iconst 0, 1) := by decide +kernel
theorem dX6_numbered_3 : decode cX6_numbered 3 = .ok (.istore_n 3, 1) := by decide +kernel
theorem dX6_numbered_4 : decode cX6_numbered 4 = .ok (.iload_n 2, 1) := by decide +kernel
theorem dX6_numbered_5 : decode cX6_numbered 5 = .ok (.aload_n 0, 1) := by decide +kernel
theorem dX6_numbered_6 : decode cX6_numbered 6 = .ok (.getfield 83, 3) := by decide +kernel
theorem dX6_numbered_9 : decode cX6_numbered 9 = .ok (.if_icmp .ge 46, 3) := by decide +kernel
theorem dX6_numbered_12 : decode cX6_numbered 12 = .ok (.aload_n 0, 1) := by decide +kernel
theorem dX6_numbered_13 : decode cX6_numbered 13 = .ok (.getfield 35, 3) := by decide +kernel
theorem dX6_numbered_16 : decode cX6_numbered 16 = .ok (.iload_n 2, 1) := by decide +kernel
theorem dX6_numbered_17 : decode cX6_numbered 17 = .ok (.iaload, 1) := by decide +kernel
theorem dX6_numbered_18 : decode cX6_numbered 18 = .ok (.invokestatic 86, 3) := by decide +kernel
theorem dX6_numbered_21 : decode cX6_numbered 21 = .ok (.ifCond .eq 34, 3) := by decide +kernel
theorem dX6_numbered_24 : decode cX6_numbered 24 = .ok (.iload_n 3, 1) := by decide +kernel
theorem dX6_numbered_25 : decode cX6_numbered 25 = .ok (.bipush 100, 2) := by decide +kernel
theorem dX6_numbered_27 : decode cX6_numbered 27 = .ok (.if_icmp .ge 20, 3) := by decide +kernel
theorem dX6_numbered_30 : decode cX6_numbered 30 = .ok (.bipush 10, 2) := by decide +kernel
theorem dX6_numbered_32 : decode cX6_numbered 32 = .ok (.iload_n 3, 1) := by decide +kernel
theorem dX6_numbered_33 : decode cX6_numbered 33 = .ok (.imul, 1) := by decide +kernel
theorem dX6_numbered_34 : decode cX6_numbered 34 = .ok (.aload_n 0, 1) := by decide +kernel
theorem dX6_numbered_35 : decode cX6_numbered 35 = .ok (.getfield 35, 3) := by decide +kernel
theorem dX6_numbered_38 : decode cX6_numbered 38 = .ok (.iload_n 2, 1) := by decide +kernel
theorem dX6_numbered_39 : decode cX6_numbered 39 = .ok (.iaload, 1) := by decide +kernel
theorem dX6_numbered_40 : decode cX6_numbered 40 = .ok (.iadd, 1) := by decide +kernel
theorem dX6_numbered_41 : decode cX6_numbered 41 = .ok (.bipush 48, 2) := by decide +kernel
theorem dX6_numbered_43 : decode cX6_numbered 43 = .ok (.isub, 1) := by decide +kernel
theorem dX6_numbered_44 : decode cX6_numbered 44 = .ok (.goto 4, 3) := by decide +kernel
theorem dX6_numbered_47 : decode cX6_numbered 47 = .ok (.iload_n 3, 1) := by decide +kernel
theorem dX6_numbered_48 : decode cX6_numbered 48 = .ok (.istore_n 3, 1) := by decide +kernel
theorem dX6_numbered_49 : decode cX6_numbered 49 = .ok (.iinc 2 1, 3) := by decide +kernel
theorem dX6_numbered_52 : decode cX6_numbered 52 = .ok (.goto (-48), 3) := by decide +kernel
theorem dX6_numbered_55 : decode cX6_numbered 55 = .ok (.iload_n 3, 1) := by decide +kernel
theorem dX6_numbered_56 : decode cX6_numbered 56 = .ok (.bipush 99, 2) := by decide +kernel
theorem dX6_numbered_58 : decode cX6_numbered 58 = .ok (.if_icmp .gt 21, 3) := by decide +kernel
theorem dX6_numbered_61 : decode cX6_numbered 61 = .ok (.aload_n 0, 1) := by decide +kernel
theorem dX6_numbered_62 : decode cX6_numbered 62 = .ok (.getfield 35, 3) := by decide +kernel
theorem dX6_numbered_65 : decode cX6_numbered 65 = .ok (.iload_n 1, 1) := by decide +kernel
theorem dX6_numbered_66 : decode cX6_numbered 66 = .ok (.iaload, 1) := by decide +kernel
theorem dX6_numbered_67 : decode cX6_numbered 67 = .ok (.bipush 48, 2) := by decide +kernel
theorem dX6_numbered_69 : decode cX6_numbered 69 = .ok (.if_icmp .ne 14, 3) := by decide +kernel
theorem dX6_numbered_72 : decode cX6_numbered 72 = .ok (.iload_n 2, 1) := by decide +kernel
theorem dX6_numbered_73 : decode cX6_numbered 73 = .ok (.iload_n 1, 1) := by decide +kernel
theorem dX6_numbered_74 : decode cX6_numbered 74 = .ok (.iconst 1, 1) := by decide +kernel
theorem dX6_numbered_75 : decode cX6_numbered 75 = .ok (.iadd, 1) := by decide +kernel
theorem dX6_numbered_76 : decode cX6_numbered 76 = .ok (.if_icmp .le 7, 3) := by decide +kernel
theorem dX6_numbered_79 : decode cX6_numbered 79 = .ok (.iconst 1, 1) := by decide +kernel
theorem dX6_numbered_80 : decode cX6_numbered 80 = .ok (.goto 4, 3) := by decide +kernel
theorem dX6_numbered_83 : decode cX6_numbered 83 = .ok (.iconst 0, 1) := by decide +kernel
theorem dX6_numbered_84 : decode cX6_numbered 84 = .ok (.istore 4, 2) := by decide +kernel
theorem dX6_numbered_86 : decode cX6_numbered 86 = .ok (.aload_n 0, 1) := by decide +kernel
theorem dX6_numbered_87 : decode cX6_numbered 87 = .ok (.getfield 38, 3) := by decide +kernel
theorem dX6_numbered_90 : decode cX6_numbered 90 = .ok (.aload_n 0, 1) := by decide +kernel
theorem dX6_numbered_91 : decode cX6_numbered 91 = .ok (.getfield 90, 3) := by decide +kernel
theorem dX6_numbered_94 : decode cX6_numbered 94 = .ok (.iload 4, 2) := by decide +kernel
theorem dX6_numbered_96 : decode cX6_numbered 96 = .ok (.ifCond .eq 7, 3) := by decide +kernel
theorem dX6_numbered_99 : decode cX6_numbered 99 = .ok (.iconst 2, 1) := by decide +kernel
theorem dX6_numbered_100 : decode cX6_numbered 100 = .ok (.goto 4, 3) := by decide +kernel
theorem dX6_numbered_103 : decode cX6_numbered 103 = .ok (.iconst 1, 1) := by decide +kernel
theorem dX6_numbered_104 : decode cX6_numbered 104 = .ok (.iastore, 1) := by decide +kernel
theorem dX6_numbered_105 : decode cX6_numbered 105 = .ok (.aload_n 0, 1) := by decide +kernel
theorem dX6_numbered_106 : decode cX6_numbered 106 = .ok (.getfield 44, 3) := by decide +kernel
theorem dX6_numbered_109 : decode cX6_numbered 109 = .ok (.aload_n 0, 1) := by decide +kernel
theorem dX6_numbered_110 : decode cX6_numbered 110 = .ok (.getfield 90, 3) := by decide +kernel
theorem dX6_numbered_113 : decode cX6_numbered 113 = .ok (.iload_n 3, 1) := by decide +kernel
theorem dX6_numbered_114 : decode cX6_numbered 114 = .ok (.iastore, 1) := by decide +kernel
theorem dX6_numbered_115 : decode cX6_numbered 115 = .ok (.iload_n 2, 1) := by decide +kernel
theorem dX6_numbered_116 : decode cX6_numbered 116 = .ok (.ireturn, 1) := by decide +kernel
theorem dX6_isLetter_0 : decode cX6_isLetter 0 = .ok (.iload_n 0, 1) := by decide +kernel
theorem dX6_isLetter_1 : decode cX6_isLetter 1 = .ok (.bipush 114, 2) := by decide +kernel
theorem dX6_isLetter_3 : decode cX6_isLetter 3 = .ok (.if_icmp .eq 33, 3) := by decide +kernel
theorem dX6_isLetter_6 : decode cX6_isLetter 6 = .ok (.iload_n 0, 1) := by decide +kernel
theorem dX6_isLetter_7 : decode cX6_isLetter 7 = .ok (.bipush 119, 2) := by decide +kernel
theorem dX6_isLetter_9 : decode cX6_isLetter 9 = .ok (.if_icmp .eq 27, 3) := by decide +kernel
theorem dX6_isLetter_12 : decode cX6_isLetter 12 = .ok (.iload_n 0, 1) := by decide +kernel
theorem dX6_isLetter_13 : decode cX6_isLetter 13 = .ok (.bipush 113, 2) := by decide +kernel
theorem dX6_isLetter_15 : decode cX6_isLetter 15 = .ok (.if_icmp .eq 21, 3) := by decide +kernel
theorem dX6_isLetter_18 : decode cX6_isLetter 18 = .ok (.iload_n 0, 1) := by decide +kernel
theorem dX6_isLetter_19 : decode cX6_isLetter 19 = .ok (.bipush 115, 2) := by decide +kernel
theorem dX6_isLetter_21 : decode cX6_isLetter 21 = .ok (.if_icmp .eq 15, 3) := by decide +kernel
theorem dX6_isLetter_24 : decode cX6_isLetter 24 = .ok (.iload_n 0, 1) := by decide +kernel
theorem dX6_isLetter_25 : decode cX6_isLetter 25 = .ok (.bipush 99, 2) := by decide +kernel
theorem dX6_isLetter_27 : decode cX6_isLetter 27 = .ok (.if_icmp .eq 9, 3) := by decide +kernel
theorem dX6_isLetter_30 : decode cX6_isLetter 30 = .ok (.iload_n 0, 1) := by decide +kernel
theorem dX6_isLetter_31 : decode cX6_isLetter 31 = .ok (.bipush 59, 2) := by decide +kernel
theorem dX6_isLetter_33 : decode cX6_isLetter 33 = .ok (.if_icmp .ne 7, 3) := by decide +kernel
theorem dX6_isLetter_36 : decode cX6_isLetter 36 = .ok (.iconst 1, 1) := by decide +kernel
theorem dX6_isLetter_37 : decode cX6_isLetter 37 = .ok (.goto 4, 3) := by decide +kernel
theorem dX6_isLetter_40 : decode cX6_isLetter 40 = .ok (.iconst 0, 1) := by decide +kernel
theorem dX6_isLetter_41 : decode cX6_isLetter 41 = .ok (.ireturn, 1) := by decide +kernel
set_option maxRecDepth 20000 in
theorem ggX6_parts_X6_isFigure : GoodIn wsX6_parts wsX6_isFigure := goodIn_r _ [9, 10, 11, 8, 12] (by decide +kernel) (by decide +kernel)
set_option maxRecDepth 20000 in
theorem gX6_parts_X6_isFigure : GoodIn wsX6_parts (va_wsS RX6 86 yX6_isFigure wsX6_isFigure) := goodIn_app (goodIn_of _ (by decide +kernel)) ggX6_parts_X6_isFigure
set_option maxRecDepth 20000 in
theorem ggX6_parts_X6_numbered : GoodIn wsX6_parts wsX6_numbered := goodIn_r _ [16, 2, 3, 5, 1, 17, 6, 7, 8, 9, 10, 11, 12, 21, 22, 23, 24, 25, 26, 27, 28, 29, 30, 31, 32, 33, 34, 35, 36, 37, 38, 39, 40, 41, 42] (by decide +kernel) (by decide +kernel)
set_option maxRecDepth 20000 in
theorem gX6_parts_X6_numbered : GoodIn wsX6_parts (wsV RX6 93 RX6 yX6_numbered wsX6_numbered) := goodIn_app (goodIn_of _ (by decide +kernel)) ggX6_parts_X6_numbered
set_option maxRecDepth 20000 in
theorem ggX6_parts_X6_isLetter : GoodIn wsX6_parts wsX6_isLetter := goodIn_r _ [20] (by decide +kernel) (by decide +kernel)
set_option maxRecDepth 20000 in
theorem gX6_parts_X6_isLetter : GoodIn wsX6_parts (va_wsS RX6 96 yX6_isLetter wsX6_isLetter) := goodIn_app (goodIn_of _ (by decide +kernel)) ggX6_parts_X6_isLetter
theorem dX6_parts_0 : decode cX6_parts 0 = .ok (.aload_n 0, 1) := by decide +kernel
theorem dX6_parts_1 : decode cX6_parts 1 = .ok (.iconst 0, 1) := by decide +kernel
theorem dX6_parts_2 : decode cX6_parts 2 = .ok (.putfield 90, 3) := by decide +kernel
theorem dX6_parts_5 : decode cX6_parts 5 = .ok (.iconst 0, 1) := by decide +kernel
theorem dX6_parts_6 : decode cX6_parts 6 = .ok (.istore_n 1, 1) := by decide +kernel
theorem dX6_parts_7 : decode cX6_parts 7 = .ok (.iload_n 1, 1) := by decide +kernel
theorem dX6_parts_8 : decode cX6_parts 8 = .ok (.aload_n 0, 1) := by decide +kernel
theorem dX6_parts_9 : decode cX6_parts 9 = .ok (.getfield 83, 3) := by decide +kernel
theorem dX6_parts_12 : decode cX6_parts 12 = .ok (.if_icmp .ge 98, 3) := by decide +kernel
theorem dX6_parts_15 : decode cX6_parts 15 = .ok (.aload_n 0, 1) := by decide +kernel
theorem dX6_parts_16 : decode cX6_parts 16 = .ok (.getfield 35, 3) := by decide +kernel
theorem dX6_parts_19 : decode cX6_parts 19 = .ok (.iload_n 1, 1) := by decide +kernel
theorem dX6_parts_20 : decode cX6_parts 20 = .ok (.iaload, 1) := by decide +kernel
theorem dX6_parts_21 : decode cX6_parts 21 = .ok (.bipush 32, 2) := by decide +kernel
theorem dX6_parts_23 : decode cX6_parts 23 = .ok (.if_icmp .ne 9, 3) := by decide +kernel
theorem dX6_parts_26 : decode cX6_parts 26 = .ok (.iinc 1 1, 3) := by decide +kernel
theorem dX6_parts_29 : decode cX6_parts 29 = .ok (.goto (-22), 3) := by decide +kernel
theorem dX6_parts_32 : decode cX6_parts 32 = .ok (.aload_n 0, 1) := by decide +kernel
theorem dX6_parts_33 : decode cX6_parts 33 = .ok (.getfield 41, 3) := by decide +kernel
theorem dX6_parts_36 : decode cX6_parts 36 = .ok (.aload_n 0, 1) := by decide +kernel
theorem dX6_parts_37 : decode cX6_parts 37 = .ok (.getfield 90, 3) := by decide +kernel
theorem dX6_parts_40 : decode cX6_parts 40 = .ok (.iload_n 1, 1) := by decide +kernel
theorem dX6_parts_41 : decode cX6_parts 41 = .ok (.iastore, 1) := by decide +kernel
theorem dX6_parts_42 : decode cX6_parts 42 = .ok (.aload_n 0, 1) := by decide +kernel
theorem dX6_parts_43 : decode cX6_parts 43 = .ok (.getfield 35, 3) := by decide +kernel
theorem dX6_parts_46 : decode cX6_parts 46 = .ok (.iload_n 1, 1) := by decide +kernel
theorem dX6_parts_47 : decode cX6_parts 47 = .ok (.iaload, 1) := by decide +kernel
theorem dX6_parts_48 : decode cX6_parts 48 = .ok (.invokestatic 86, 3) := by decide +kernel
theorem dX6_parts_51 : decode cX6_parts 51 = .ok (.ifCond .eq 12, 3) := by decide +kernel
theorem dX6_parts_54 : decode cX6_parts 54 = .ok (.aload_n 0, 1) := by decide +kernel
theorem dX6_parts_55 : decode cX6_parts 55 = .ok (.iload_n 1, 1) := by decide +kernel
theorem dX6_parts_56 : decode cX6_parts 56 = .ok (.invokevirtual 93, 3) := by decide +kernel
theorem dX6_parts_59 : decode cX6_parts 59 = .ok (.istore_n 1, 1) := by decide +kernel
theorem dX6_parts_60 : decode cX6_parts 60 = .ok (.goto 37, 3) := by decide +kernel
theorem dX6_parts_63 : decode cX6_parts 63 = .ok (.aload_n 0, 1) := by decide +kernel
theorem dX6_parts_64 : decode cX6_parts 64 = .ok (.getfield 38, 3) := by decide +kernel
theorem dX6_parts_67 : decode cX6_parts 67 = .ok (.aload_n 0, 1) := by decide +kernel
theorem dX6_parts_68 : decode cX6_parts 68 = .ok (.getfield 90, 3) := by decide +kernel
theorem dX6_parts_71 : decode cX6_parts 71 = .ok (.aload_n 0, 1) := by decide +kernel
theorem dX6_parts_72 : decode cX6_parts 72 = .ok (.getfield 35, 3) := by decide +kernel
theorem dX6_parts_75 : decode cX6_parts 75 = .ok (.iload_n 1, 1) := by decide +kernel
theorem dX6_parts_76 : decode cX6_parts 76 = .ok (.iaload, 1) := by decide +kernel
theorem dX6_parts_77 : decode cX6_parts 77 = .ok (.invokestatic 96, 3) := by decide +kernel
theorem dX6_parts_80 : decode cX6_parts 80 = .ok (.ifCond .eq 12, 3) := by decide +kernel
theorem dX6_parts_83 : decode cX6_parts 83 = .ok (.aload_n 0, 1) := by decide +kernel
theorem dX6_parts_84 : decode cX6_parts 84 = .ok (.getfield 35, 3) := by decide +kernel
theorem dX6_parts_87 : decode cX6_parts 87 = .ok (.iload_n 1, 1) := by decide +kernel
theorem dX6_parts_88 : decode cX6_parts 88 = .ok (.iaload, 1) := by decide +kernel
theorem dX6_parts_89 : decode cX6_parts 89 = .ok (.goto 4, 3) := by decide +kernel
theorem dX6_parts_92 : decode cX6_parts 92 = .ok (.iconst 2, 1) := by decide +kernel
theorem dX6_parts_93 : decode cX6_parts 93 = .ok (.iastore, 1) := by decide +kernel
theorem dX6_parts_94 : decode cX6_parts 94 = .ok (.iinc 1 1, 3) := by decide +kernel
theorem dX6_parts_97 : decode cX6_parts 97 = .ok (.aload_n 0, 1) := by decide +kernel
theorem dX6_parts_98 : decode cX6_parts 98 = .ok (.dup, 1) := by decide +kernel
theorem dX6_parts_99 : decode cX6_parts 99 = .ok (.getfield 90, 3) := by decide +kernel
theorem dX6_parts_102 : decode cX6_parts 102 = .ok (.iconst 1, 1) := by decide +kernel
theorem dX6_parts_103 : decode cX6_parts 103 = .ok (.iadd, 1) := by decide +kernel
theorem dX6_parts_104 : decode cX6_parts 104 = .ok (.putfield 90, 3) := by decide +kernel
theorem dX6_parts_107 : decode cX6_parts 107 = .ok (.goto (-100), 3) := by decide +kernel
theorem dX6_parts_110 : decode cX6_parts 110 = .ok (.return_, 1) := by decide +kernel
theorem dX6_placeOf_0 : decode cX6_placeOf 0 = .ok (.iload_n 1, 1) := by decide +kernel
theorem dX6_placeOf_1 : decode cX6_placeOf 1 = .ok (.aload_n 0, 1) := by decide +kernel
theorem dX6_placeOf_2 : decode cX6_placeOf 2 = .ok (.getfield 90, 3) := by decide +kernel
theorem dX6_placeOf_5 : decode cX6_placeOf 5 = .ok (.if_icmp .ge 12, 3) := by decide +kernel
theorem dX6_placeOf_8 : decode cX6_placeOf 8 = .ok (.aload_n 0, 1) := by decide +kernel
theorem dX6_placeOf_9 : decode cX6_placeOf 9 = .ok (.getfield 41, 3) := by decide +kernel
theorem dX6_placeOf_12 : decode cX6_placeOf 12 = .ok (.iload_n 1, 1) := by decide +kernel
theorem dX6_placeOf_13 : decode cX6_placeOf 13 = .ok (.iaload, 1) := by decide +kernel
theorem dX6_placeOf_14 : decode cX6_placeOf 14 = .ok (.goto 7, 3) := by decide +kernel
theorem dX6_placeOf_17 : decode cX6_placeOf 17 = .ok (.aload_n 0, 1) := by decide +kernel
theorem dX6_placeOf_18 : decode cX6_placeOf 18 = .ok (.getfield 83, 3) := by decide +kernel
theorem dX6_placeOf_21 : decode cX6_placeOf 21 = .ok (.ireturn, 1) := by decide +kernel
theorem dX6_isKind_0 : decode cX6_isKind 0 = .ok (.iload_n 1, 1) := by decide +kernel
theorem dX6_isKind_1 : decode cX6_isKind 1 = .ok (.aload_n 0, 1) := by decide +kernel
theorem dX6_isKind_2 : decode cX6_isKind 2 = .ok (.getfield 90, 3) := by decide +kernel
theorem dX6_isKind_5 : decode cX6_isKind 5 = .ok (.if_icmp .ge 17, 3) := by decide +kernel
theorem dX6_isKind_8 : decode cX6_isKind 8 = .ok (.aload_n 0, 1) := by decide +kernel
theorem dX6_isKind_9 : decode cX6_isKind 9 = .ok (.getfield 38, 3) := by decide +kernel
theorem dX6_isKind_12 : decode cX6_isKind 12 = .ok (.iload_n 1, 1) := by decide +kernel
theorem dX6_isKind_13 : decode cX6_isKind 13 = .ok (.iaload, 1) := by decide +kernel
theorem dX6_isKind_14 : decode cX6_isKind 14 = .ok (.iload_n 2, 1) := by decide +kernel
theorem dX6_isKind_15 : decode cX6_isKind 15 = .ok (.if_icmp .ne 7, 3) := by decide +kernel
theorem dX6_isKind_18 : decode cX6_isKind 18 = .ok (.iconst 1, 1) := by decide +kernel
theorem dX6_isKind_19 : decode cX6_isKind 19 = .ok (.goto 4, 3) := by decide +kernel
theorem dX6_isKind_22 : decode cX6_isKind 22 = .ok (.iconst 0, 1) := by decide +kernel
theorem dX6_isKind_23 : decode cX6_isKind 23 = .ok (.ireturn, 1) := by decide +kernel
set_option maxRecDepth 20000 in
theorem ggX6_isNumber_X6_isKind : GoodIn wsX6_isNumber wsX6_isKind := goodIn_r _ [6, 7, 8, 12, 13, 14, 15, 16, 17, 18, 19, 20, 21, 22, 23, 24, 25, 26, 27, 28, 29, 30, 31, 32, 33] (by decide +kernel) (by decide +kernel)
set_option maxRecDepth 20000 in
theorem gX6_isNumber_X6_isKind : GoodIn wsX6_isNumber (wsV RX6 99 RX6 yX6_isKind wsX6_isKind) := goodIn_app (goodIn_of _ (by decide +kernel)) ggX6_isNumber_X6_isKind
set_option maxRecDepth 20000 in
theorem ggX6_isNumber_X6_in : GoodIn wsX6_isNumber wsX6_in := goodIn_r _ [11] (by decide +kernel) (by decide +kernel)
set_option maxRecDepth 20000 in
theorem gX6_isNumber_X6_in : GoodIn wsX6_isNumber (va_wsS RX6 75 yX6_in wsX6_in) := goodIn_app (goodIn_of _ (by decide +kernel)) ggX6_isNumber_X6_in
theorem dX6_isNumber_0 : decode cX6_isNumber 0 = .ok (.aload_n 0, 1) := by decide +kernel
theorem dX6_isNumber_1 : decode cX6_isNumber 1 = .ok (.iload_n 1, 1) := by decide +kernel
theorem dX6_isNumber_2 : decode cX6_isNumber 2 = .ok (.iconst 1, 1) := by decide +kernel
theorem dX6_isNumber_3 : decode cX6_isNumber 3 = .ok (.invokevirtual 99, 3) := by decide +kernel
theorem dX6_isNumber_6 : decode cX6_isNumber 6 = .ok (.ifCond .eq 21, 3) := by decide +kernel
theorem dX6_isNumber_9 : decode cX6_isNumber 9 = .ok (.aload_n 0, 1) := by decide +kernel
theorem dX6_isNumber_10 : decode cX6_isNumber 10 = .ok (.getfield 44, 3) := by decide +kernel
theorem dX6_isNumber_13 : decode cX6_isNumber 13 = .ok (.iload_n 1, 1) := by decide +kernel
theorem dX6_isNumber_14 : decode cX6_isNumber 14 = .ok (.iaload, 1) := by decide +kernel
theorem dX6_isNumber_15 : decode cX6_isNumber 15 = .ok (.iload_n 2, 1) := by decide +kernel
theorem dX6_isNumber_16 : decode cX6_isNumber 16 = .ok (.iload_n 3, 1) := by decide +kernel
theorem dX6_isNumber_17 : decode cX6_isNumber 17 = .ok (.invokestatic 75, 3) := by decide +kernel
theorem dX6_isNumber_20 : decode cX6_isNumber 20 = .ok (.ifCond .eq 7, 3) := by decide +kernel
theorem dX6_isNumber_23 : decode cX6_isNumber 23 = .ok (.iconst 1, 1) := by decide +kernel
theorem dX6_isNumber_24 : decode cX6_isNumber 24 = .ok (.goto 4, 3) := by decide +kernel
theorem dX6_isNumber_27 : decode cX6_isNumber 27 = .ok (.iconst 0, 1) := by decide +kernel
theorem dX6_isNumber_28 : decode cX6_isNumber 28 = .ok (.ireturn, 1) := by decide +kernel
set_option maxRecDepth 20000 in
theorem ggX6_firstWrong_X6_token : GoodIn wsX6_firstWrong wsX6_token := goodIn_r _ [7, 8, 9, 21, 22, 23, 24, 25, 26, 27, 28, 29, 30, 31, 32, 33, 34, 35, 36, 37, 38, 39, 40, 41, 42] (by decide +kernel) (by decide +kernel)
set_option maxRecDepth 20000 in
theorem gX6_firstWrong_X6_token : GoodIn wsX6_firstWrong (wsV RX6 103 RX6 yX6_token wsX6_token) := goodIn_app (goodIn_of _ (by decide +kernel)) ggX6_firstWrong_X6_token
set_option maxRecDepth 20000 in
theorem ggX6_firstWrong_X6_isNumber : GoodIn wsX6_firstWrong wsX6_isNumber := goodIn_r _ [13, 2, 14, 15, 16, 6, 17, 8, 9, 18, 19, 20, 21, 22, 23, 24, 25, 26, 27, 28, 29, 30, 31, 32, 33, 34, 35, 36, 37, 38, 39, 40, 41, 42] (by decide +kernel) (by decide +kernel)
set_option maxRecDepth 20000 in
theorem gX6_firstWrong_X6_isNumber : GoodIn wsX6_firstWrong (wsV RX6 106 RX6 yX6_isNumber wsX6_isNumber) := goodIn_app (goodIn_of _ (by decide +kernel)) ggX6_firstWrong_X6_isNumber
set_option maxRecDepth 20000 in
theorem ggX6_firstWrong_X6_isKind : GoodIn wsX6_firstWrong wsX6_isKind := goodIn_r _ [17, 8, 9, 21, 22, 23, 24, 25, 26, 27, 28, 29, 30, 31, 32, 33, 34, 35, 36, 37, 38, 39, 40, 41, 42] (by decide +kernel) (by decide +kernel)
set_option maxRecDepth 20000 in
theorem gX6_firstWrong_X6_isKind : GoodIn wsX6_firstWrong (wsV RX6 99 RX6 yX6_isKind wsX6_isKind) := goodIn_app (goodIn_of _ (by decide +kernel)) ggX6_firstWrong_X6_isKind
theorem dX6_firstWrong_0 : decode cX6_firstWrong 0 = .ok (.aload_n 0, 1) := by decide +kernel
theorem dX6_firstWrong_1 : decode cX6_firstWrong 1 = .ok (.iload_n 1, 1) := by decide +kernel
theorem dX6_firstWrong_2 : decode cX6_firstWrong 2 = .ok (.invokevirtual 103, 3) := by decide +kernel
theorem dX6_firstWrong_5 : decode cX6_firstWrong 5 = .ok (.istore_n 2, 1) := by decide +kernel
theorem dX6_firstWrong_6 : decode cX6_firstWrong 6 = .ok (.iload_n 1, 1) := by decide +kernel
theorem dX6_firstWrong_7 : decode cX6_firstWrong 7 = .ok (.ifCond .ne 7, 3) := by decide +kernel
theorem dX6_firstWrong_10 : decode cX6_firstWrong 10 = .ok (.iconst 1, 1) := by decide +kernel
theorem dX6_firstWrong_11 : decode cX6_firstWrong 11 = .ok (.goto 4, 3) := by decide +kernel
theorem dX6_firstWrong_14 : decode cX6_firstWrong 14 = .ok (.iconst 0, 1) := by decide +kernel
theorem dX6_firstWrong_15 : decode cX6_firstWrong 15 = .ok (.istore_n 3, 1) := by decide +kernel
theorem dX6_firstWrong_16 : decode cX6_firstWrong 16 = .ok (.iload_n 2, 1) := by decide +kernel
theorem dX6_firstWrong_17 : decode cX6_firstWrong 17 = .ok (.bipush 119, 2) := by decide +kernel
theorem dX6_firstWrong_19 : decode cX6_firstWrong 19 = .ok (.if_icmp .eq 53, 3) := by decide +kernel
theorem dX6_firstWrong_22 : decode cX6_firstWrong 22 = .ok (.iload_n 2, 1) := by decide +kernel
theorem dX6_firstWrong_23 : decode cX6_firstWrong 23 = .ok (.bipush 113, 2) := by decide +kernel
theorem dX6_firstWrong_25 : decode cX6_firstWrong 25 = .ok (.if_icmp .eq 47, 3) := by decide +kernel
theorem dX6_firstWrong_28 : decode cX6_firstWrong 28 = .ok (.iload_n 2, 1) := by decide +kernel
theorem dX6_firstWrong_29 : decode cX6_firstWrong 29 = .ok (.bipush 114, 2) := by decide +kernel
theorem dX6_firstWrong_31 : decode cX6_firstWrong 31 = .ok (.if_icmp .ne 7, 3) := by decide +kernel
theorem dX6_firstWrong_34 : decode cX6_firstWrong 34 = .ok (.iload_n 3, 1) := by decide +kernel
theorem dX6_firstWrong_35 : decode cX6_firstWrong 35 = .ok (.ifCond .ne 37, 3) := by decide +kernel
theorem dX6_firstWrong_38 : decode cX6_firstWrong 38 = .ok (.iload_n 2, 1) := by decide +kernel
theorem dX6_firstWrong_39 : decode cX6_firstWrong 39 = .ok (.bipush 115, 2) := by decide +kernel
theorem dX6_firstWrong_41 : decode cX6_firstWrong 41 = .ok (.if_icmp .ne 14, 3) := by decide +kernel
theorem dX6_firstWrong_44 : decode cX6_firstWrong 44 = .ok (.aload_n 0, 1) := by decide +kernel
theorem dX6_firstWrong_45 : decode cX6_firstWrong 45 = .ok (.getfield 13, 3) := by decide +kernel
theorem dX6_firstWrong_48 : decode cX6_firstWrong 48 = .ok (.bipush 8, 2) := by decide +kernel
theorem dX6_firstWrong_50 : decode cX6_firstWrong 50 = .ok (.iaload, 1) := by decide +kernel
theorem dX6_firstWrong_51 : decode cX6_firstWrong 51 = .ok (.iconst 4, 1) := by decide +kernel
theorem dX6_firstWrong_52 : decode cX6_firstWrong 52 = .ok (.if_icmp .lt 20, 3) := by decide +kernel
theorem dX6_firstWrong_55 : decode cX6_firstWrong 55 = .ok (.iload_n 2, 1) := by decide +kernel
theorem dX6_firstWrong_56 : decode cX6_firstWrong 56 = .ok (.bipush 99, 2) := by decide +kernel
theorem dX6_firstWrong_58 : decode cX6_firstWrong 58 = .ok (.if_icmp .ne 18, 3) := by decide +kernel
theorem dX6_firstWrong_61 : decode cX6_firstWrong 61 = .ok (.aload_n 0, 1) := by decide +kernel
theorem dX6_firstWrong_62 : decode cX6_firstWrong 62 = .ok (.getfield 13, 3) := by decide +kernel
theorem dX6_firstWrong_65 : decode cX6_firstWrong 65 = .ok (.bipush 17, 2) := by decide +kernel
theorem dX6_firstWrong_67 : decode cX6_firstWrong 67 = .ok (.iaload, 1) := by decide +kernel
theorem dX6_firstWrong_68 : decode cX6_firstWrong 68 = .ok (.iconst 3, 1) := by decide +kernel
theorem dX6_firstWrong_69 : decode cX6_firstWrong 69 = .ok (.if_icmp .ge 7, 3) := by decide +kernel
theorem dX6_firstWrong_72 : decode cX6_firstWrong 72 = .ok (.iconst 1, 1) := by decide +kernel
theorem dX6_firstWrong_73 : decode cX6_firstWrong 73 = .ok (.goto 4, 3) := by decide +kernel
theorem dX6_firstWrong_76 : decode cX6_firstWrong 76 = .ok (.iconst 0, 1) := by decide +kernel
theorem dX6_firstWrong_77 : decode cX6_firstWrong 77 = .ok (.istore 4, 2) := by decide +kernel
theorem dX6_firstWrong_79 : decode cX6_firstWrong 79 = .ok (.iload 4, 2) := by decide +kernel
theorem dX6_firstWrong_81 : decode cX6_firstWrong 81 = .ok (.ifCond .ne 5, 3) := by decide +kernel
theorem dX6_firstWrong_84 : decode cX6_firstWrong 84 = .ok (.iload_n 1, 1) := by decide +kernel
theorem dX6_firstWrong_85 : decode cX6_firstWrong 85 = .ok (.ireturn, 1) := by decide +kernel
theorem dX6_firstWrong_86 : decode cX6_firstWrong 86 = .ok (.iload_n 2, 1) := by decide +kernel
theorem dX6_firstWrong_87 : decode cX6_firstWrong 87 = .ok (.bipush 114, 2) := by decide +kernel
theorem dX6_firstWrong_89 : decode cX6_firstWrong 89 = .ok (.if_icmp .ne 7, 3) := by decide +kernel
theorem dX6_firstWrong_92 : decode cX6_firstWrong 92 = .ok (.iconst 2, 1) := by decide +kernel
theorem dX6_firstWrong_93 : decode cX6_firstWrong 93 = .ok (.goto 14, 3) := by decide +kernel
theorem dX6_firstWrong_96 : decode cX6_firstWrong 96 = .ok (.iload_n 2, 1) := by decide +kernel
theorem dX6_firstWrong_97 : decode cX6_firstWrong 97 = .ok (.bipush 99, 2) := by decide +kernel
theorem dX6_firstWrong_99 : decode cX6_firstWrong 99 = .ok (.if_icmp .ne 7, 3) := by decide +kernel
theorem dX6_firstWrong_102 : decode cX6_firstWrong 102 = .ok (.iconst 1, 1) := by decide +kernel
theorem dX6_firstWrong_103 : decode cX6_firstWrong 103 = .ok (.goto 4, 3) := by decide +kernel
theorem dX6_firstWrong_106 : decode cX6_firstWrong 106 = .ok (.iconst 0, 1) := by decide +kernel
theorem dX6_firstWrong_107 : decode cX6_firstWrong 107 = .ok (.istore 5, 2) := by decide +kernel
theorem dX6_firstWrong_109 : decode cX6_firstWrong 109 = .ok (.iload_n 2, 1) := by decide +kernel
theorem dX6_firstWrong_110 : decode cX6_firstWrong 110 = .ok (.bipush 114, 2) := by decide +kernel
theorem dX6_firstWrong_112 : decode cX6_firstWrong 112 = .ok (.if_icmp .ne 8, 3) := by decide +kernel
theorem dX6_firstWrong_115 : decode cX6_firstWrong 115 = .ok (.bipush 20, 2) := by decide +kernel
theorem dX6_firstWrong_117 : decode cX6_firstWrong 117 = .ok (.goto 36, 3) := by decide +kernel
theorem dX6_firstWrong_120 : decode cX6_firstWrong 120 = .ok (.iload_n 2, 1) := by decide +kernel
theorem dX6_firstWrong_121 : decode cX6_firstWrong 121 = .ok (.bipush 119, 2) := by decide +kernel
theorem dX6_firstWrong_123 : decode cX6_firstWrong 123 = .ok (.if_icmp .ne 7, 3) := by decide +kernel
theorem dX6_firstWrong_126 : decode cX6_firstWrong 126 = .ok (.iconst 3, 1) := by decide +kernel
theorem dX6_firstWrong_127 : decode cX6_firstWrong 127 = .ok (.goto 26, 3) := by decide +kernel
theorem dX6_firstWrong_130 : decode cX6_firstWrong 130 = .ok (.iload_n 2, 1) := by decide +kernel
theorem dX6_firstWrong_131 : decode cX6_firstWrong 131 = .ok (.bipush 99, 2) := by decide +kernel
theorem dX6_firstWrong_133 : decode cX6_firstWrong 133 = .ok (.if_icmp .ne 14, 3) := by decide +kernel
theorem dX6_firstWrong_136 : decode cX6_firstWrong 136 = .ok (.aload_n 0, 1) := by decide +kernel
theorem dX6_firstWrong_137 : decode cX6_firstWrong 137 = .ok (.getfield 13, 3) := by decide +kernel
theorem dX6_firstWrong_140 : decode cX6_firstWrong 140 = .ok (.iconst 0, 1) := by decide +kernel
theorem dX6_firstWrong_141 : decode cX6_firstWrong 141 = .ok (.iaload, 1) := by decide +kernel
theorem dX6_firstWrong_142 : decode cX6_firstWrong 142 = .ok (.iconst 1, 1) := by decide +kernel
theorem dX6_firstWrong_143 : decode cX6_firstWrong 143 = .ok (.isub, 1) := by decide +kernel
theorem dX6_firstWrong_144 : decode cX6_firstWrong 144 = .ok (.goto 9, 3) := by decide +kernel
theorem dX6_firstWrong_147 : decode cX6_firstWrong 147 = .ok (.aload_n 0, 1) := by decide +kernel
theorem dX6_firstWrong_148 : decode cX6_firstWrong 148 = .ok (.getfield 13, 3) := by decide +kernel
theorem dX6_firstWrong_151 : decode cX6_firstWrong 151 = .ok (.iconst 0, 1) := by decide +kernel
theorem dX6_firstWrong_152 : decode cX6_firstWrong 152 = .ok (.iaload, 1) := by decide +kernel
theorem dX6_firstWrong_153 : decode cX6_firstWrong 153 = .ok (.istore 6, 2) := by decide +kernel
theorem dX6_firstWrong_155 : decode cX6_firstWrong 155 = .ok (.aload_n 0, 1) := by decide +kernel
theorem dX6_firstWrong_156 : decode cX6_firstWrong 156 = .ok (.iload_n 1, 1) := by decide +kernel
theorem dX6_firstWrong_157 : decode cX6_firstWrong 157 = .ok (.iconst 1, 1) := by decide +kernel
theorem dX6_firstWrong_158 : decode cX6_firstWrong 158 = .ok (.iadd, 1) := by decide +kernel
theorem dX6_firstWrong_159 : decode cX6_firstWrong 159 = .ok (.iload 5, 2) := by decide +kernel
theorem dX6_firstWrong_161 : decode cX6_firstWrong 161 = .ok (.iload 6, 2) := by decide +kernel
theorem dX6_firstWrong_163 : decode cX6_firstWrong 163 = .ok (.invokevirtual 106, 3) := by decide +kernel
theorem dX6_firstWrong_166 : decode cX6_firstWrong 166 = .ok (.ifCond .ne 7, 3) := by decide +kernel
theorem dX6_firstWrong_169 : decode cX6_firstWrong 169 = .ok (.iload_n 1, 1) := by decide +kernel
theorem dX6_firstWrong_170 : decode cX6_firstWrong 170 = .ok (.iconst 1, 1) := by decide +kernel
theorem dX6_firstWrong_171 : decode cX6_firstWrong 171 = .ok (.iadd, 1) := by decide +kernel
theorem dX6_firstWrong_172 : decode cX6_firstWrong 172 = .ok (.ireturn, 1) := by decide +kernel
theorem dX6_firstWrong_173 : decode cX6_firstWrong 173 = .ok (.iload_n 2, 1) := by decide +kernel
theorem dX6_firstWrong_174 : decode cX6_firstWrong 174 = .ok (.bipush 114, 2) := by decide +kernel
theorem dX6_firstWrong_176 : decode cX6_firstWrong 176 = .ok (.if_icmp .ne 8, 3) := by decide +kernel
theorem dX6_firstWrong_179 : decode cX6_firstWrong 179 = .ok (.bipush 20, 2) := by decide +kernel
theorem dX6_firstWrong_181 : decode cX6_firstWrong 181 = .ok (.goto 20, 3) := by decide +kernel
theorem dX6_firstWrong_184 : decode cX6_firstWrong 184 = .ok (.iload_n 2, 1) := by decide +kernel
theorem dX6_firstWrong_185 : decode cX6_firstWrong 185 = .ok (.bipush 119, 2) := by decide +kernel
theorem dX6_firstWrong_187 : decode cX6_firstWrong 187 = .ok (.if_icmp .ne 8, 3) := by decide +kernel
theorem dX6_firstWrong_190 : decode cX6_firstWrong 190 = .ok (.bipush 10, 2) := by decide +kernel
theorem dX6_firstWrong_192 : decode cX6_firstWrong 192 = .ok (.goto 9, 3) := by decide +kernel
theorem dX6_firstWrong_195 : decode cX6_firstWrong 195 = .ok (.aload_n 0, 1) := by decide +kernel
theorem dX6_firstWrong_196 : decode cX6_firstWrong 196 = .ok (.getfield 13, 3) := by decide +kernel
theorem dX6_firstWrong_199 : decode cX6_firstWrong 199 = .ok (.iconst 1, 1) := by decide +kernel
theorem dX6_firstWrong_200 : decode cX6_firstWrong 200 = .ok (.iaload, 1) := by decide +kernel
theorem dX6_firstWrong_201 : decode cX6_firstWrong 201 = .ok (.istore 7, 2) := by decide +kernel
theorem dX6_firstWrong_203 : decode cX6_firstWrong 203 = .ok (.aload_n 0, 1) := by decide +kernel
theorem dX6_firstWrong_204 : decode cX6_firstWrong 204 = .ok (.iload_n 1, 1) := by decide +kernel
theorem dX6_firstWrong_205 : decode cX6_firstWrong 205 = .ok (.iconst 2, 1) := by decide +kernel
theorem dX6_firstWrong_206 : decode cX6_firstWrong 206 = .ok (.iadd, 1) := by decide +kernel
theorem dX6_firstWrong_207 : decode cX6_firstWrong 207 = .ok (.iload_n 2, 1) := by decide +kernel
theorem dX6_firstWrong_208 : decode cX6_firstWrong 208 = .ok (.bipush 114, 2) := by decide +kernel
theorem dX6_firstWrong_210 : decode cX6_firstWrong 210 = .ok (.if_icmp .ne 7, 3) := by decide +kernel
theorem dX6_firstWrong_213 : decode cX6_firstWrong 213 = .ok (.iconst 2, 1) := by decide +kernel
theorem dX6_firstWrong_214 : decode cX6_firstWrong 214 = .ok (.goto 4, 3) := by decide +kernel
theorem dX6_firstWrong_217 : decode cX6_firstWrong 217 = .ok (.iconst 0, 1) := by decide +kernel
theorem dX6_firstWrong_218 : decode cX6_firstWrong 218 = .ok (.iload 7, 2) := by decide +kernel
theorem dX6_firstWrong_220 : decode cX6_firstWrong 220 = .ok (.invokevirtual 106, 3) := by decide +kernel
theorem dX6_firstWrong_223 : decode cX6_firstWrong 223 = .ok (.ifCond .ne 7, 3) := by decide +kernel
theorem dX6_firstWrong_226 : decode cX6_firstWrong 226 = .ok (.iload_n 1, 1) := by decide +kernel
theorem dX6_firstWrong_227 : decode cX6_firstWrong 227 = .ok (.iconst 2, 1) := by decide +kernel
theorem dX6_firstWrong_228 : decode cX6_firstWrong 228 = .ok (.iadd, 1) := by decide +kernel
theorem dX6_firstWrong_229 : decode cX6_firstWrong 229 = .ok (.ireturn, 1) := by decide +kernel
theorem dX6_firstWrong_230 : decode cX6_firstWrong 230 = .ok (.iload_n 2, 1) := by decide +kernel
theorem dX6_firstWrong_231 : decode cX6_firstWrong 231 = .ok (.bipush 99, 2) := by decide +kernel
theorem dX6_firstWrong_233 : decode cX6_firstWrong 233 = .ok (.if_icmp .ne 31, 3) := by decide +kernel
theorem dX6_firstWrong_236 : decode cX6_firstWrong 236 = .ok (.aload_n 0, 1) := by decide +kernel
theorem dX6_firstWrong_237 : decode cX6_firstWrong 237 = .ok (.iload_n 1, 1) := by decide +kernel
theorem dX6_firstWrong_238 : decode cX6_firstWrong 238 = .ok (.iconst 3, 1) := by decide +kernel
theorem dX6_firstWrong_239 : decode cX6_firstWrong 239 = .ok (.iadd, 1) := by decide +kernel
theorem dX6_firstWrong_240 : decode cX6_firstWrong 240 = .ok (.aload_n 0, 1) := by decide +kernel
theorem dX6_firstWrong_241 : decode cX6_firstWrong 241 = .ok (.getfield 44, 3) := by decide +kernel
theorem dX6_firstWrong_244 : decode cX6_firstWrong 244 = .ok (.iload_n 1, 1) := by decide +kernel
theorem dX6_firstWrong_245 : decode cX6_firstWrong 245 = .ok (.iconst 2, 1) := by decide +kernel
theorem dX6_firstWrong_246 : decode cX6_firstWrong 246 = .ok (.iadd, 1) := by decide +kernel
theorem dX6_firstWrong_247 : decode cX6_firstWrong 247 = .ok (.iaload, 1) := by decide +kernel
theorem dX6_firstWrong_248 : decode cX6_firstWrong 248 = .ok (.aload_n 0, 1) := by decide +kernel
theorem dX6_firstWrong_249 : decode cX6_firstWrong 249 = .ok (.getfield 13, 3) := by decide +kernel
theorem dX6_firstWrong_252 : decode cX6_firstWrong 252 = .ok (.iconst 1, 1) := by decide +kernel
theorem dX6_firstWrong_253 : decode cX6_firstWrong 253 = .ok (.iaload, 1) := by decide +kernel
theorem dX6_firstWrong_254 : decode cX6_firstWrong 254 = .ok (.invokevirtual 106, 3) := by decide +kernel
theorem dX6_firstWrong_257 : decode cX6_firstWrong 257 = .ok (.ifCond .ne 7, 3) := by decide +kernel
theorem dX6_firstWrong_260 : decode cX6_firstWrong 260 = .ok (.iload_n 1, 1) := by decide +kernel
theorem dX6_firstWrong_261 : decode cX6_firstWrong 261 = .ok (.iconst 3, 1) := by decide +kernel
theorem dX6_firstWrong_262 : decode cX6_firstWrong 262 = .ok (.iadd, 1) := by decide +kernel
theorem dX6_firstWrong_263 : decode cX6_firstWrong 263 = .ok (.ireturn, 1) := by decide +kernel
theorem dX6_firstWrong_264 : decode cX6_firstWrong 264 = .ok (.iload_n 2, 1) := by decide +kernel
theorem dX6_firstWrong_265 : decode cX6_firstWrong 265 = .ok (.bipush 99, 2) := by decide +kernel
theorem dX6_firstWrong_267 : decode cX6_firstWrong 267 = .ok (.if_icmp .ne 9, 3) := by decide +kernel
theorem dX6_firstWrong_270 : decode cX6_firstWrong 270 = .ok (.iload_n 1, 1) := by decide +kernel
theorem dX6_firstWrong_271 : decode cX6_firstWrong 271 = .ok (.iconst 4, 1) := by decide +kernel
theorem dX6_firstWrong_272 : decode cX6_firstWrong 272 = .ok (.iadd, 1) := by decide +kernel
theorem dX6_firstWrong_273 : decode cX6_firstWrong 273 = .ok (.goto 6, 3) := by decide +kernel
theorem dX6_firstWrong_276 : decode cX6_firstWrong 276 = .ok (.iload_n 1, 1) := by decide +kernel
theorem dX6_firstWrong_277 : decode cX6_firstWrong 277 = .ok (.iconst 3, 1) := by decide +kernel
theorem dX6_firstWrong_278 : decode cX6_firstWrong 278 = .ok (.iadd, 1) := by decide +kernel
theorem dX6_firstWrong_279 : decode cX6_firstWrong 279 = .ok (.istore 8, 2) := by decide +kernel
theorem dX6_firstWrong_281 : decode cX6_firstWrong 281 = .ok (.aload_n 0, 1) := by decide +kernel
theorem dX6_firstWrong_282 : decode cX6_firstWrong 282 = .ok (.iload 8, 2) := by decide +kernel
theorem dX6_firstWrong_284 : decode cX6_firstWrong 284 = .ok (.bipush 59, 2) := by decide +kernel
theorem dX6_firstWrong_286 : decode cX6_firstWrong 286 = .ok (.invokevirtual 99, 3) := by decide +kernel
theorem dX6_firstWrong_289 : decode cX6_firstWrong 289 = .ok (.ifCond .eq 8, 3) := by decide +kernel
theorem dX6_firstWrong_292 : decode cX6_firstWrong 292 = .ok (.bipush (-9), 2) := by decide +kernel
theorem dX6_firstWrong_294 : decode cX6_firstWrong 294 = .ok (.goto 5, 3) := by decide +kernel
theorem dX6_firstWrong_297 : decode cX6_firstWrong 297 = .ok (.iload 8, 2) := by decide +kernel
theorem dX6_firstWrong_299 : decode cX6_firstWrong 299 = .ok (.ireturn, 1) := by decide +kernel
theorem dX6_token_0 : decode cX6_token 0 = .ok (.iload_n 1, 1) := by decide +kernel
theorem dX6_token_1 : decode cX6_token 1 = .ok (.aload_n 0, 1) := by decide +kernel
theorem dX6_token_2 : decode cX6_token 2 = .ok (.getfield 90, 3) := by decide +kernel
theorem dX6_token_5 : decode cX6_token 5 = .ok (.if_icmp .ge 12, 3) := by decide +kernel
theorem dX6_token_8 : decode cX6_token 8 = .ok (.aload_n 0, 1) := by decide +kernel
theorem dX6_token_9 : decode cX6_token 9 = .ok (.getfield 38, 3) := by decide +kernel
theorem dX6_token_12 : decode cX6_token 12 = .ok (.iload_n 1, 1) := by decide +kernel
theorem dX6_token_13 : decode cX6_token 13 = .ok (.iaload, 1) := by decide +kernel
theorem dX6_token_14 : decode cX6_token 14 = .ok (.goto 4, 3) := by decide +kernel
theorem dX6_token_17 : decode cX6_token 17 = .ok (.iconst 0, 1) := by decide +kernel
theorem dX6_token_18 : decode cX6_token 18 = .ok (.ireturn, 1) := by decide +kernel
theorem dX6_lay_0 : decode cX6_lay 0 = .ok (.aload_n 0, 1) := by decide +kernel
theorem dX6_lay_1 : decode cX6_lay 1 = .ok (.getfield 44, 3) := by decide +kernel
theorem dX6_lay_4 : decode cX6_lay 4 = .ok (.iload_n 1, 1) := by decide +kernel
theorem dX6_lay_5 : decode cX6_lay 5 = .ok (.iconst 1, 1) := by decide +kernel
theorem dX6_lay_6 : decode cX6_lay 6 = .ok (.iadd, 1) := by decide +kernel
theorem dX6_lay_7 : decode cX6_lay 7 = .ok (.iaload, 1) := by decide +kernel
theorem dX6_lay_8 : decode cX6_lay 8 = .ok (.istore_n 2, 1) := by decide +kernel
theorem dX6_lay_9 : decode cX6_lay 9 = .ok (.aload_n 0, 1) := by decide +kernel
theorem dX6_lay_10 : decode cX6_lay 10 = .ok (.getfield 44, 3) := by decide +kernel
theorem dX6_lay_13 : decode cX6_lay 13 = .ok (.iload_n 1, 1) := by decide +kernel
theorem dX6_lay_14 : decode cX6_lay 14 = .ok (.iconst 2, 1) := by decide +kernel
theorem dX6_lay_15 : decode cX6_lay 15 = .ok (.iadd, 1) := by decide +kernel
theorem dX6_lay_16 : decode cX6_lay 16 = .ok (.iaload, 1) := by decide +kernel
theorem dX6_lay_17 : decode cX6_lay 17 = .ok (.istore_n 3, 1) := by decide +kernel
theorem dX6_lay_18 : decode cX6_lay 18 = .ok (.aload_n 0, 1) := by decide +kernel
theorem dX6_lay_19 : decode cX6_lay 19 = .ok (.getfield 38, 3) := by decide +kernel
theorem dX6_lay_22 : decode cX6_lay 22 = .ok (.iload_n 1, 1) := by decide +kernel
theorem dX6_lay_23 : decode cX6_lay 23 = .ok (.iaload, 1) := by decide +kernel
theorem dX6_lay_24 : decode cX6_lay 24 = .ok (.tableswitch 136 113 119 #[73, 44, 90, 136, 136, 136, 61], 44) := by decide +kernel
theorem dX6_lay_68 : decode cX6_lay 68 = .ok (.aload_n 0, 1) := by decide +kernel
theorem dX6_lay_69 : decode cX6_lay 69 = .ok (.getfield 13, 3) := by decide +kernel
theorem dX6_lay_72 : decode cX6_lay 72 = .ok (.iconst 0, 1) := by decide +kernel
theorem dX6_lay_73 : decode cX6_lay 73 = .ok (.iload_n 2, 1) := by decide +kernel
theorem dX6_lay_74 : decode cX6_lay 74 = .ok (.iastore, 1) := by decide +kernel
theorem dX6_lay_75 : decode cX6_lay 75 = .ok (.aload_n 0, 1) := by decide +kernel
theorem dX6_lay_76 : decode cX6_lay 76 = .ok (.getfield 13, 3) := by decide +kernel
theorem dX6_lay_79 : decode cX6_lay 79 = .ok (.iconst 1, 1) := by decide +kernel
theorem dX6_lay_80 : decode cX6_lay 80 = .ok (.iload_n 3, 1) := by decide +kernel
theorem dX6_lay_81 : decode cX6_lay 81 = .ok (.iastore, 1) := by decide +kernel
theorem dX6_lay_82 : decode cX6_lay 82 = .ok (.goto 144, 3) := by decide +kernel
theorem dX6_lay_85 : decode cX6_lay 85 = .ok (.aload_n 0, 1) := by decide +kernel
theorem dX6_lay_86 : decode cX6_lay 86 = .ok (.getfield 13, 3) := by decide +kernel
theorem dX6_lay_89 : decode cX6_lay 89 = .ok (.iconst 4, 1) := by decide +kernel
theorem dX6_lay_90 : decode cX6_lay 90 = .ok (.iload_n 2, 1) := by decide +kernel
theorem dX6_lay_91 : decode cX6_lay 91 = .ok (.iadd, 1) := by decide +kernel
theorem dX6_lay_92 : decode cX6_lay 92 = .ok (.iload_n 3, 1) := by decide +kernel
theorem dX6_lay_93 : decode cX6_lay 93 = .ok (.iastore, 1) := by decide +kernel
theorem dX6_lay_94 : decode cX6_lay 94 = .ok (.goto 132, 3) := by decide +kernel
theorem dX6_lay_97 : decode cX6_lay 97 = .ok (.aload_n 0, 1) := by decide +kernel
theorem dX6_lay_98 : decode cX6_lay 98 = .ok (.getfield 13, 3) := by decide +kernel
theorem dX6_lay_101 : decode cX6_lay 101 = .ok (.iconst 2, 1) := by decide +kernel
theorem dX6_lay_102 : decode cX6_lay 102 = .ok (.iload_n 2, 1) := by decide +kernel
theorem dX6_lay_103 : decode cX6_lay 103 = .ok (.iastore, 1) := by decide +kernel
theorem dX6_lay_104 : decode cX6_lay 104 = .ok (.aload_n 0, 1) := by decide +kernel
theorem dX6_lay_105 : decode cX6_lay 105 = .ok (.getfield 13, 3) := by decide +kernel
theorem dX6_lay_108 : decode cX6_lay 108 = .ok (.iconst 3, 1) := by decide +kernel
theorem dX6_lay_109 : decode cX6_lay 109 = .ok (.iload_n 3, 1) := by decide +kernel
theorem dX6_lay_110 : decode cX6_lay 110 = .ok (.iastore, 1) := by decide +kernel
theorem dX6_lay_111 : decode cX6_lay 111 = .ok (.goto 115, 3) := by decide +kernel
theorem dX6_lay_114 : decode cX6_lay 114 = .ok (.aload_n 0, 1) := by decide +kernel
theorem dX6_lay_115 : decode cX6_lay 115 = .ok (.getfield 13, 3) := by decide +kernel
theorem dX6_lay_118 : decode cX6_lay 118 = .ok (.bipush 9, 2) := by decide +kernel
theorem dX6_lay_120 : decode cX6_lay 120 = .ok (.aload_n 0, 1) := by decide +kernel
theorem dX6_lay_121 : decode cX6_lay 121 = .ok (.getfield 13, 3) := by decide +kernel
theorem dX6_lay_124 : decode cX6_lay 124 = .ok (.bipush 8, 2) := by decide +kernel
theorem dX6_lay_126 : decode cX6_lay 126 = .ok (.iaload, 1) := by decide +kernel
theorem dX6_lay_127 : decode cX6_lay 127 = .ok (.iadd, 1) := by decide +kernel
theorem dX6_lay_128 : decode cX6_lay 128 = .ok (.iload_n 2, 1) := by decide +kernel
theorem dX6_lay_129 : decode cX6_lay 129 = .ok (.iastore, 1) := by decide +kernel
theorem dX6_lay_130 : decode cX6_lay 130 = .ok (.aload_n 0, 1) := by decide +kernel
theorem dX6_lay_131 : decode cX6_lay 131 = .ok (.getfield 13, 3) := by decide +kernel
theorem dX6_lay_134 : decode cX6_lay 134 = .ok (.bipush 13, 2) := by decide +kernel
theorem dX6_lay_136 : decode cX6_lay 136 = .ok (.aload_n 0, 1) := by decide +kernel
theorem dX6_lay_137 : decode cX6_lay 137 = .ok (.getfield 13, 3) := by decide +kernel
theorem dX6_lay_140 : decode cX6_lay 140 = .ok (.bipush 8, 2) := by decide +kernel
theorem dX6_lay_142 : decode cX6_lay 142 = .ok (.iaload, 1) := by decide +kernel
theorem dX6_lay_143 : decode cX6_lay 143 = .ok (.iadd, 1) := by decide +kernel
theorem dX6_lay_144 : decode cX6_lay 144 = .ok (.iload_n 3, 1) := by decide +kernel
theorem dX6_lay_145 : decode cX6_lay 145 = .ok (.iastore, 1) := by decide +kernel
theorem dX6_lay_146 : decode cX6_lay 146 = .ok (.aload_n 0, 1) := by decide +kernel
theorem dX6_lay_147 : decode cX6_lay 147 = .ok (.getfield 13, 3) := by decide +kernel
theorem dX6_lay_150 : decode cX6_lay 150 = .ok (.bipush 8, 2) := by decide +kernel
theorem dX6_lay_152 : decode cX6_lay 152 = .ok (.dup2, 1) := by decide +kernel
theorem dX6_lay_153 : decode cX6_lay 153 = .ok (.iaload, 1) := by decide +kernel
theorem dX6_lay_154 : decode cX6_lay 154 = .ok (.iconst 1, 1) := by decide +kernel
theorem dX6_lay_155 : decode cX6_lay 155 = .ok (.iadd, 1) := by decide +kernel
theorem dX6_lay_156 : decode cX6_lay 156 = .ok (.iastore, 1) := by decide +kernel
theorem dX6_lay_157 : decode cX6_lay 157 = .ok (.goto 69, 3) := by decide +kernel
theorem dX6_lay_160 : decode cX6_lay 160 = .ok (.aload_n 0, 1) := by decide +kernel
theorem dX6_lay_161 : decode cX6_lay 161 = .ok (.getfield 13, 3) := by decide +kernel
theorem dX6_lay_164 : decode cX6_lay 164 = .ok (.bipush 18, 2) := by decide +kernel
theorem dX6_lay_166 : decode cX6_lay 166 = .ok (.aload_n 0, 1) := by decide +kernel
theorem dX6_lay_167 : decode cX6_lay 167 = .ok (.getfield 13, 3) := by decide +kernel
theorem dX6_lay_170 : decode cX6_lay 170 = .ok (.bipush 17, 2) := by decide +kernel
theorem dX6_lay_172 : decode cX6_lay 172 = .ok (.iaload, 1) := by decide +kernel
theorem dX6_lay_173 : decode cX6_lay 173 = .ok (.iadd, 1) := by decide +kernel
theorem dX6_lay_174 : decode cX6_lay 174 = .ok (.iload_n 2, 1) := by decide +kernel
theorem dX6_lay_175 : decode cX6_lay 175 = .ok (.iastore, 1) := by decide +kernel
theorem dX6_lay_176 : decode cX6_lay 176 = .ok (.aload_n 0, 1) := by decide +kernel
theorem dX6_lay_177 : decode cX6_lay 177 = .ok (.getfield 13, 3) := by decide +kernel
theorem dX6_lay_180 : decode cX6_lay 180 = .ok (.bipush 21, 2) := by decide +kernel
theorem dX6_lay_182 : decode cX6_lay 182 = .ok (.aload_n 0, 1) := by decide +kernel
theorem dX6_lay_183 : decode cX6_lay 183 = .ok (.getfield 13, 3) := by decide +kernel
theorem dX6_lay_186 : decode cX6_lay 186 = .ok (.bipush 17, 2) := by decide +kernel
theorem dX6_lay_188 : decode cX6_lay 188 = .ok (.iaload, 1) := by decide +kernel
theorem dX6_lay_189 : decode cX6_lay 189 = .ok (.iadd, 1) := by decide +kernel
theorem dX6_lay_190 : decode cX6_lay 190 = .ok (.iload_n 3, 1) := by decide +kernel
theorem dX6_lay_191 : decode cX6_lay 191 = .ok (.iastore, 1) := by decide +kernel
theorem dX6_lay_192 : decode cX6_lay 192 = .ok (.aload_n 0, 1) := by decide +kernel
theorem dX6_lay_193 : decode cX6_lay 193 = .ok (.getfield 13, 3) := by decide +kernel
theorem dX6_lay_196 : decode cX6_lay 196 = .ok (.bipush 24, 2) := by decide +kernel
theorem dX6_lay_198 : decode cX6_lay 198 = .ok (.aload_n 0, 1) := by decide +kernel
theorem dX6_lay_199 : decode cX6_lay 199 = .ok (.getfield 13, 3) := by decide +kernel
theorem dX6_lay_202 : decode cX6_lay 202 = .ok (.bipush 17, 2) := by decide +kernel
theorem dX6_lay_204 : decode cX6_lay 204 = .ok (.iaload, 1) := by decide +kernel
theorem dX6_lay_205 : decode cX6_lay 205 = .ok (.iadd, 1) := by decide +kernel
theorem dX6_lay_206 : decode cX6_lay 206 = .ok (.aload_n 0, 1) := by decide +kernel
theorem dX6_lay_207 : decode cX6_lay 207 = .ok (.getfield 44, 3) := by decide +kernel
theorem dX6_lay_210 : decode cX6_lay 210 = .ok (.iload_n 1, 1) := by decide +kernel
theorem dX6_lay_211 : decode cX6_lay 211 = .ok (.iconst 3, 1) := by decide +kernel
theorem dX6_lay_212 : decode cX6_lay 212 = .ok (.iadd, 1) := by decide +kernel
theorem dX6_lay_213 : decode cX6_lay 213 = .ok (.iaload, 1) := by decide +kernel
theorem dX6_lay_214 : decode cX6_lay 214 = .ok (.iastore, 1) := by decide +kernel
theorem dX6_lay_215 : decode cX6_lay 215 = .ok (.aload_n 0, 1) := by decide +kernel
theorem dX6_lay_216 : decode cX6_lay 216 = .ok (.getfield 13, 3) := by decide +kernel
theorem dX6_lay_219 : decode cX6_lay 219 = .ok (.bipush 17, 2) := by decide +kernel
theorem dX6_lay_221 : decode cX6_lay 221 = .ok (.dup2, 1) := by decide +kernel
theorem dX6_lay_222 : decode cX6_lay 222 = .ok (.iaload, 1) := by decide +kernel
theorem dX6_lay_223 : decode cX6_lay 223 = .ok (.iconst 1, 1) := by decide +kernel
theorem dX6_lay_224 : decode cX6_lay 224 = .ok (.iadd, 1) := by decide +kernel
theorem dX6_lay_225 : decode cX6_lay 225 = .ok (.iastore, 1) := by decide +kernel
theorem dX6_lay_226 : decode cX6_lay 226 = .ok (.return_, 1) := by decide +kernel
set_option maxRecDepth 20000 in
theorem ggX6_room_X6_parts : GoodIn wsX6_room wsX6_parts := goodIn_r _ [8, 1, 3, 9, 10, 2, 11, 12, 7, 13, 14, 15, 16, 17, 18, 19, 20, 21, 22, 23, 24, 62, 63, 64, 65, 66, 67, 68, 69, 70, 71, 72, 73, 74, 75, 76, 77, 78, 79, 80, 81, 82, 83] (by decide +kernel) (by decide +kernel)
set_option maxRecDepth 20000 in
theorem gX6_room_X6_parts : GoodIn wsX6_room (wsV RX6 109 RX6 yX6_parts wsX6_parts) := goodIn_app (goodIn_of _ (by decide +kernel)) ggX6_room_X6_parts
set_option maxRecDepth 20000 in
theorem ggX6_room_X6_begins : GoodIn wsX6_room wsX6_begins := goodIn_r _ [28, 29, 62, 63, 64, 65, 66, 67, 68, 69, 70, 71, 72, 73, 74, 75, 76, 77, 78, 79, 80, 81, 82, 83] (by decide +kernel) (by decide +kernel)
set_option maxRecDepth 20000 in
theorem gX6_room_X6_begins : GoodIn wsX6_room (wsV RX6 62 RX6 yX6_begins wsX6_begins) := goodIn_app (goodIn_of _ (by decide +kernel)) ggX6_room_X6_begins
set_option maxRecDepth 20000 in
theorem ggX6_room_X6_firstWrong : GoodIn wsX6_room wsX6_firstWrong := goodIn_r _ [33, 29, 21, 34, 35, 36, 7, 37, 1, 2, 38, 39, 40, 41, 42, 43, 44, 45, 14, 15, 16, 62, 63, 64, 65, 66, 67, 68, 69, 70, 71, 72, 73, 74, 75, 76, 77, 78, 79, 80, 81, 82, 83] (by decide +kernel) (by decide +kernel)
set_option maxRecDepth 20000 in
theorem gX6_room_X6_firstWrong : GoodIn wsX6_room (wsV RX6 112 RX6 yX6_firstWrong wsX6_firstWrong) := goodIn_app (goodIn_of _ (by decide +kernel)) ggX6_room_X6_firstWrong
set_option maxRecDepth 20000 in
theorem ggX6_room_X6_placeOf : GoodIn wsX6_room wsX6_placeOf := goodIn_r _ [49, 1, 10, 3, 62, 63, 64, 65, 66, 67, 68, 69, 70, 71, 72, 73, 74, 75, 76, 77, 78, 79, 80, 81, 82, 83] (by decide +kernel) (by decide +kernel)
set_option maxRecDepth 20000 in
theorem gX6_room_X6_placeOf : GoodIn wsX6_room (wsV RX6 115 RX6 yX6_placeOf wsX6_placeOf) := goodIn_app (goodIn_of _ (by decide +kernel)) ggX6_room_X6_placeOf
set_option maxRecDepth 20000 in
theorem ggX6_room_X6_lay : GoodIn wsX6_room wsX6_lay := goodIn_r _ [53, 21, 2, 29, 62, 63, 64, 65, 66, 67, 68, 69, 70, 71, 72, 73, 74, 75, 76, 77, 78, 79, 80, 81, 82, 83] (by decide +kernel) (by decide +kernel)
set_option maxRecDepth 20000 in
theorem gX6_room_X6_lay : GoodIn wsX6_room (wsV RX6 118 RX6 yX6_lay wsX6_lay) := goodIn_app (goodIn_of _ (by decide +kernel)) ggX6_room_X6_lay
set_option maxRecDepth 20000 in
theorem ggX6_room_X6_becomes : GoodIn wsX6_room wsX6_becomes := goodIn_r _ [57, 58, 29, 59, 60, 61, 62, 63, 64, 65, 66, 67, 68, 69, 70, 71, 72, 73, 74, 75, 76, 77, 78, 79, 80, 81, 82, 83] (by decide +kernel) (by decide +kernel)
set_option maxRecDepth 20000 in
theorem gX6_room_X6_becomes : GoodIn wsX6_room (wsV RX6 65 RX6 yX6_becomes wsX6_becomes) := goodIn_app (goodIn_of _ (by decide +kernel)) ggX6_room_X6_becomes
theorem dX6_room_0 : decode cX6_room 0 = .ok (.aload_n 0, 1) := by decide +kernel
theorem dX6_room_1 : decode cX6_room 1 = .ok (.invokevirtual 109, 3) := by decide +kernel
theorem dX6_room_4 : decode cX6_room 4 = .ok (.aload_n 0, 1) := by decide +kernel
theorem dX6_room_5 : decode cX6_room 5 = .ok (.invokevirtual 62, 3) := by decide +kernel
theorem dX6_room_8 : decode cX6_room 8 = .ok (.iconst 0, 1) := by decide +kernel
theorem dX6_room_9 : decode cX6_room 9 = .ok (.istore_n 1, 1) := by decide +kernel
theorem dX6_room_10 : decode cX6_room 10 = .ok (.iconst 0, 1) := by decide +kernel
theorem dX6_room_11 : decode cX6_room 11 = .ok (.istore_n 2, 1) := by decide +kernel
theorem dX6_room_12 : decode cX6_room 12 = .ok (.iload_n 2, 1) := by decide +kernel
theorem dX6_room_13 : decode cX6_room 13 = .ok (.aload_n 0, 1) := by decide +kernel
theorem dX6_room_14 : decode cX6_room 14 = .ok (.getfield 90, 3) := by decide +kernel
theorem dX6_room_17 : decode cX6_room 17 = .ok (.if_icmp .ge 54, 3) := by decide +kernel
theorem dX6_room_20 : decode cX6_room 20 = .ok (.aload_n 0, 1) := by decide +kernel
theorem dX6_room_21 : decode cX6_room 21 = .ok (.iload_n 2, 1) := by decide +kernel
theorem dX6_room_22 : decode cX6_room 22 = .ok (.invokevirtual 112, 3) := by decide +kernel
theorem dX6_room_25 : decode cX6_room 25 = .ok (.istore_n 3, 1) := by decide +kernel
theorem dX6_room_26 : decode cX6_room 26 = .ok (.iload_n 3, 1) := by decide +kernel
theorem dX6_room_27 : decode cX6_room 27 = .ok (.bipush (-9), 2) := by decide +kernel
theorem dX6_room_29 : decode cX6_room 29 = .ok (.if_icmp .eq 12, 3) := by decide +kernel
theorem dX6_room_32 : decode cX6_room 32 = .ok (.bipush (-10), 2) := by decide +kernel
theorem dX6_room_34 : decode cX6_room 34 = .ok (.aload_n 0, 1) := by decide +kernel
theorem dX6_room_35 : decode cX6_room 35 = .ok (.iload_n 3, 1) := by decide +kernel
theorem dX6_room_36 : decode cX6_room 36 = .ok (.invokevirtual 115, 3) := by decide +kernel
theorem dX6_room_39 : decode cX6_room 39 = .ok (.isub, 1) := by decide +kernel
theorem dX6_room_40 : decode cX6_room 40 = .ok (.ireturn, 1) := by decide +kernel
theorem dX6_room_41 : decode cX6_room 41 = .ok (.aload_n 0, 1) := by decide +kernel
theorem dX6_room_42 : decode cX6_room 42 = .ok (.iload_n 2, 1) := by decide +kernel
theorem dX6_room_43 : decode cX6_room 43 = .ok (.invokevirtual 118, 3) := by decide +kernel
theorem dX6_room_46 : decode cX6_room 46 = .ok (.iload_n 2, 1) := by decide +kernel
theorem dX6_room_47 : decode cX6_room 47 = .ok (.aload_n 0, 1) := by decide +kernel
theorem dX6_room_48 : decode cX6_room 48 = .ok (.getfield 38, 3) := by decide +kernel
theorem dX6_room_51 : decode cX6_room 51 = .ok (.iload_n 2, 1) := by decide +kernel
theorem dX6_room_52 : decode cX6_room 52 = .ok (.iaload, 1) := by decide +kernel
theorem dX6_room_53 : decode cX6_room 53 = .ok (.bipush 99, 2) := by decide +kernel
theorem dX6_room_55 : decode cX6_room 55 = .ok (.if_icmp .ne 7, 3) := by decide +kernel
theorem dX6_room_58 : decode cX6_room 58 = .ok (.iconst 5, 1) := by decide +kernel
theorem dX6_room_59 : decode cX6_room 59 = .ok (.goto 4, 3) := by decide +kernel
theorem dX6_room_62 : decode cX6_room 62 = .ok (.iconst 4, 1) := by decide +kernel
theorem dX6_room_63 : decode cX6_room 63 = .ok (.iadd, 1) := by decide +kernel
theorem dX6_room_64 : decode cX6_room 64 = .ok (.istore_n 2, 1) := by decide +kernel
theorem dX6_room_65 : decode cX6_room 65 = .ok (.iinc 1 1, 3) := by decide +kernel
theorem dX6_room_68 : decode cX6_room 68 = .ok (.goto (-56), 3) := by decide +kernel
theorem dX6_room_71 : decode cX6_room 71 = .ok (.aload_n 0, 1) := by decide +kernel
theorem dX6_room_72 : decode cX6_room 72 = .ok (.invokevirtual 65, 3) := by decide +kernel
theorem dX6_room_75 : decode cX6_room 75 = .ok (.aload_n 0, 1) := by decide +kernel
theorem dX6_room_76 : decode cX6_room 76 = .ok (.iconst 0, 1) := by decide +kernel
theorem dX6_room_77 : decode cX6_room 77 = .ok (.putfield 83, 3) := by decide +kernel
theorem dX6_room_80 : decode cX6_room 80 = .ok (.iload_n 1, 1) := by decide +kernel
theorem dX6_room_81 : decode cX6_room 81 = .ok (.ireturn, 1) := by decide +kernel
set_option maxRecDepth 20000 in
theorem ggX6_wall_X6_in : GoodIn wsX6_wall wsX6_in := goodIn_r _ [5] (by decide +kernel) (by decide +kernel)
set_option maxRecDepth 20000 in
theorem gX6_wall_X6_in : GoodIn wsX6_wall (va_wsS RX6 75 yX6_in wsX6_in) := goodIn_app (goodIn_of _ (by decide +kernel)) ggX6_wall_X6_in
theorem dX6_wall_0 : decode cX6_wall 0 = .ok (.iload_n 1, 1) := by decide +kernel
theorem dX6_wall_1 : decode cX6_wall 1 = .ok (.iconst 0, 1) := by decide +kernel
theorem dX6_wall_2 : decode cX6_wall 2 = .ok (.iconst 3, 1) := by decide +kernel
theorem dX6_wall_3 : decode cX6_wall 3 = .ok (.invokestatic 75, 3) := by decide +kernel
theorem dX6_wall_6 : decode cX6_wall 6 = .ok (.ifCond .eq 14, 3) := by decide +kernel
theorem dX6_wall_9 : decode cX6_wall 9 = .ok (.aload_n 0, 1) := by decide +kernel
theorem dX6_wall_10 : decode cX6_wall 10 = .ok (.getfield 7, 3) := by decide +kernel
theorem dX6_wall_13 : decode cX6_wall 13 = .ok (.iconst 4, 1) := by decide +kernel
theorem dX6_wall_14 : decode cX6_wall 14 = .ok (.iload_n 1, 1) := by decide +kernel
theorem dX6_wall_15 : decode cX6_wall 15 = .ok (.iadd, 1) := by decide +kernel
theorem dX6_wall_16 : decode cX6_wall 16 = .ok (.iaload, 1) := by decide +kernel
theorem dX6_wall_17 : decode cX6_wall 17 = .ok (.goto 4, 3) := by decide +kernel
theorem dX6_wall_20 : decode cX6_wall 20 = .ok (.iconst (-1), 1) := by decide +kernel
theorem dX6_wall_21 : decode cX6_wall 21 = .ok (.ireturn, 1) := by decide +kernel
set_option maxRecDepth 20000 in
theorem ggX6_seat_X6_isSeat : GoodIn wsX6_seat wsX6_isSeat := goodIn_r _ [6, 1, 7, 8, 5, 9, 10, 11, 12, 13, 14, 15, 16, 17, 18, 19, 20, 21, 22, 23, 24, 25, 26, 27, 28, 29, 30, 31] (by decide +kernel) (by decide +kernel)
set_option maxRecDepth 20000 in
theorem gX6_seat_X6_isSeat : GoodIn wsX6_seat (wsV RX6 122 RX6 yX6_isSeat wsX6_isSeat) := goodIn_app (goodIn_of _ (by decide +kernel)) ggX6_seat_X6_isSeat
set_option maxRecDepth 20000 in
theorem ggX6_seat_X6_in : GoodIn wsX6_seat wsX6_in := goodIn_r _ [9] (by decide +kernel) (by decide +kernel)
set_option maxRecDepth 20000 in
theorem gX6_seat_X6_in : GoodIn wsX6_seat (va_wsS RX6 75 yX6_in wsX6_in) := goodIn_app (goodIn_of _ (by decide +kernel)) ggX6_seat_X6_in
theorem dX6_seat_0 : decode cX6_seat 0 = .ok (.aload_n 0, 1) := by decide +kernel
theorem dX6_seat_1 : decode cX6_seat 1 = .ok (.iload_n 1, 1) := by decide +kernel
theorem dX6_seat_2 : decode cX6_seat 2 = .ok (.invokevirtual 122, 3) := by decide +kernel
theorem dX6_seat_5 : decode cX6_seat 5 = .ok (.ifCond .eq 12, 3) := by decide +kernel
theorem dX6_seat_8 : decode cX6_seat 8 = .ok (.iload_n 2, 1) := by decide +kernel
theorem dX6_seat_9 : decode cX6_seat 9 = .ok (.iconst 0, 1) := by decide +kernel
theorem dX6_seat_10 : decode cX6_seat 10 = .ok (.iconst 1, 1) := by decide +kernel
theorem dX6_seat_11 : decode cX6_seat 11 = .ok (.invokestatic 75, 3) := by decide +kernel
theorem dX6_seat_14 : decode cX6_seat 14 = .ok (.ifCond .ne 5, 3) := by decide +kernel
theorem dX6_seat_17 : decode cX6_seat 17 = .ok (.iconst (-1), 1) := by decide +kernel
theorem dX6_seat_18 : decode cX6_seat 18 = .ok (.ireturn, 1) := by decide +kernel
theorem dX6_seat_19 : decode cX6_seat 19 = .ok (.iload_n 2, 1) := by decide +kernel
theorem dX6_seat_20 : decode cX6_seat 20 = .ok (.ifCond .ne 15, 3) := by decide +kernel
theorem dX6_seat_23 : decode cX6_seat 23 = .ok (.aload_n 0, 1) := by decide +kernel
theorem dX6_seat_24 : decode cX6_seat 24 = .ok (.getfield 7, 3) := by decide +kernel
theorem dX6_seat_27 : decode cX6_seat 27 = .ok (.bipush 9, 2) := by decide +kernel
theorem dX6_seat_29 : decode cX6_seat 29 = .ok (.iload_n 1, 1) := by decide +kernel
theorem dX6_seat_30 : decode cX6_seat 30 = .ok (.iadd, 1) := by decide +kernel
theorem dX6_seat_31 : decode cX6_seat 31 = .ok (.iaload, 1) := by decide +kernel
theorem dX6_seat_32 : decode cX6_seat 32 = .ok (.goto 12, 3) := by decide +kernel
theorem dX6_seat_35 : decode cX6_seat 35 = .ok (.aload_n 0, 1) := by decide +kernel
theorem dX6_seat_36 : decode cX6_seat 36 = .ok (.getfield 7, 3) := by decide +kernel
theorem dX6_seat_39 : decode cX6_seat 39 = .ok (.bipush 13, 2) := by decide +kernel
theorem dX6_seat_41 : decode cX6_seat 41 = .ok (.iload_n 1, 1) := by decide +kernel
theorem dX6_seat_42 : decode cX6_seat 42 = .ok (.iadd, 1) := by decide +kernel
theorem dX6_seat_43 : decode cX6_seat 43 = .ok (.iaload, 1) := by decide +kernel
theorem dX6_seat_44 : decode cX6_seat 44 = .ok (.ireturn, 1) := by decide +kernel
set_option maxRecDepth 20000 in
theorem ggX6_curtain_X6_isCurtain : GoodIn wsX6_curtain wsX6_isCurtain := goodIn_r _ [6, 1, 7, 8, 5, 9, 10, 11, 12, 13, 14, 15, 16, 17, 18, 19, 20, 21, 22, 23, 24, 25, 26, 27, 28, 29, 30, 31] (by decide +kernel) (by decide +kernel)
set_option maxRecDepth 20000 in
theorem gX6_curtain_X6_isCurtain : GoodIn wsX6_curtain (wsV RX6 125 RX6 yX6_isCurtain wsX6_isCurtain) := goodIn_app (goodIn_of _ (by decide +kernel)) ggX6_curtain_X6_isCurtain
set_option maxRecDepth 20000 in
theorem ggX6_curtain_X6_in : GoodIn wsX6_curtain wsX6_in := goodIn_r _ [9] (by decide +kernel) (by decide +kernel)
set_option maxRecDepth 20000 in
theorem gX6_curtain_X6_in : GoodIn wsX6_curtain (va_wsS RX6 75 yX6_in wsX6_in) := goodIn_app (goodIn_of _ (by decide +kernel)) ggX6_curtain_X6_in
theorem dX6_curtain_0 : decode cX6_curtain 0 = .ok (.aload_n 0, 1) := by decide +kernel
theorem dX6_curtain_1 : decode cX6_curtain 1 = .ok (.iload_n 1, 1) := by decide +kernel
theorem dX6_curtain_2 : decode cX6_curtain 2 = .ok (.invokevirtual 125, 3) := by decide +kernel
theorem dX6_curtain_5 : decode cX6_curtain 5 = .ok (.ifCond .eq 12, 3) := by decide +kernel
theorem dX6_curtain_8 : decode cX6_curtain 8 = .ok (.iload_n 2, 1) := by decide +kernel
theorem dX6_curtain_9 : decode cX6_curtain 9 = .ok (.iconst 0, 1) := by decide +kernel
theorem dX6_curtain_10 : decode cX6_curtain 10 = .ok (.iconst 2, 1) := by decide +kernel
theorem dX6_curtain_11 : decode cX6_curtain 11 = .ok (.invokestatic 75, 3) := by decide +kernel
theorem dX6_curtain_14 : decode cX6_curtain 14 = .ok (.ifCond .ne 5, 3) := by decide +kernel
theorem dX6_curtain_17 : decode cX6_curtain 17 = .ok (.iconst (-1), 1) := by decide +kernel
theorem dX6_curtain_18 : decode cX6_curtain 18 = .ok (.ireturn, 1) := by decide +kernel
theorem dX6_curtain_19 : decode cX6_curtain 19 = .ok (.aload_n 0, 1) := by decide +kernel
theorem dX6_curtain_20 : decode cX6_curtain 20 = .ok (.getfield 7, 3) := by decide +kernel
theorem dX6_curtain_23 : decode cX6_curtain 23 = .ok (.bipush 18, 2) := by decide +kernel
theorem dX6_curtain_25 : decode cX6_curtain 25 = .ok (.iconst 3, 1) := by decide +kernel
theorem dX6_curtain_26 : decode cX6_curtain 26 = .ok (.iload_n 2, 1) := by decide +kernel
theorem dX6_curtain_27 : decode cX6_curtain 27 = .ok (.imul, 1) := by decide +kernel
theorem dX6_curtain_28 : decode cX6_curtain 28 = .ok (.iadd, 1) := by decide +kernel
theorem dX6_curtain_29 : decode cX6_curtain 29 = .ok (.iload_n 1, 1) := by decide +kernel
theorem dX6_curtain_30 : decode cX6_curtain 30 = .ok (.iadd, 1) := by decide +kernel
theorem dX6_curtain_31 : decode cX6_curtain 31 = .ok (.iaload, 1) := by decide +kernel
theorem dX6_curtain_32 : decode cX6_curtain 32 = .ok (.ireturn, 1) := by decide +kernel
theorem dX6_known_0 : decode cX6_known 0 = .ok (.aload_n 0, 1) := by decide +kernel
theorem dX6_known_1 : decode cX6_known 1 = .ok (.getfield 68, 3) := by decide +kernel
theorem dX6_known_4 : decode cX6_known 4 = .ok (.bipush 10, 2) := by decide +kernel
theorem dX6_known_6 : decode cX6_known 6 = .ok (.if_icmp .ne 41, 3) := by decide +kernel
theorem dX6_known_9 : decode cX6_known 9 = .ok (.iconst 0, 1) := by decide +kernel
theorem dX6_known_10 : decode cX6_known 10 = .ok (.istore_n 3, 1) := by decide +kernel
theorem dX6_known_11 : decode cX6_known 11 = .ok (.iload_n 3, 1) := by decide +kernel
theorem dX6_known_12 : decode cX6_known 12 = .ok (.bipush 36, 2) := by decide +kernel
