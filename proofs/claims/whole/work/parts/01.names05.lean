theorem dX6_known_14 : decode cX6_known 14 = .ok (.if_icmp .ge 23, 3) := by decide +kernel
theorem dX6_known_17 : decode cX6_known 17 = .ok (.aload_n 0, 1) := by decide +kernel
theorem dX6_known_18 : decode cX6_known 18 = .ok (.getfield 23, 3) := by decide +kernel
theorem dX6_known_21 : decode cX6_known 21 = .ok (.iload_n 3, 1) := by decide +kernel
theorem dX6_known_22 : decode cX6_known 22 = .ok (.aload_n 0, 1) := by decide +kernel
theorem dX6_known_23 : decode cX6_known 23 = .ok (.getfield 23, 3) := by decide +kernel
theorem dX6_known_26 : decode cX6_known 26 = .ok (.iload_n 3, 1) := by decide +kernel
theorem dX6_known_27 : decode cX6_known 27 = .ok (.iconst 4, 1) := by decide +kernel
theorem dX6_known_28 : decode cX6_known 28 = .ok (.iadd, 1) := by decide +kernel
theorem dX6_known_29 : decode cX6_known 29 = .ok (.iaload, 1) := by decide +kernel
theorem dX6_known_30 : decode cX6_known 30 = .ok (.iastore, 1) := by decide +kernel
theorem dX6_known_31 : decode cX6_known 31 = .ok (.iinc 3 1, 3) := by decide +kernel
theorem dX6_known_34 : decode cX6_known 34 = .ok (.goto (-23), 3) := by decide +kernel
theorem dX6_known_37 : decode cX6_known 37 = .ok (.aload_n 0, 1) := by decide +kernel
theorem dX6_known_38 : decode cX6_known 38 = .ok (.dup, 1) := by decide +kernel
theorem dX6_known_39 : decode cX6_known 39 = .ok (.getfield 68, 3) := by decide +kernel
theorem dX6_known_42 : decode cX6_known 42 = .ok (.iconst 1, 1) := by decide +kernel
theorem dX6_known_43 : decode cX6_known 43 = .ok (.isub, 1) := by decide +kernel
theorem dX6_known_44 : decode cX6_known 44 = .ok (.putfield 68, 3) := by decide +kernel
theorem dX6_known_47 : decode cX6_known 47 = .ok (.aload_n 0, 1) := by decide +kernel
theorem dX6_known_48 : decode cX6_known 48 = .ok (.getfield 23, 3) := by decide +kernel
theorem dX6_known_51 : decode cX6_known 51 = .ok (.iconst 4, 1) := by decide +kernel
theorem dX6_known_52 : decode cX6_known 52 = .ok (.aload_n 0, 1) := by decide +kernel
theorem dX6_known_53 : decode cX6_known 53 = .ok (.getfield 68, 3) := by decide +kernel
theorem dX6_known_56 : decode cX6_known 56 = .ok (.imul, 1) := by decide +kernel
theorem dX6_known_57 : decode cX6_known 57 = .ok (.iload_n 1, 1) := by decide +kernel
theorem dX6_known_58 : decode cX6_known 58 = .ok (.iastore, 1) := by decide +kernel
theorem dX6_known_59 : decode cX6_known 59 = .ok (.aload_n 0, 1) := by decide +kernel
theorem dX6_known_60 : decode cX6_known 60 = .ok (.getfield 23, 3) := by decide +kernel
theorem dX6_known_63 : decode cX6_known 63 = .ok (.iconst 4, 1) := by decide +kernel
theorem dX6_known_64 : decode cX6_known 64 = .ok (.aload_n 0, 1) := by decide +kernel
theorem dX6_known_65 : decode cX6_known 65 = .ok (.getfield 68, 3) := by decide +kernel
theorem dX6_known_68 : decode cX6_known 68 = .ok (.imul, 1) := by decide +kernel
theorem dX6_known_69 : decode cX6_known 69 = .ok (.iconst 1, 1) := by decide +kernel
theorem dX6_known_70 : decode cX6_known 70 = .ok (.iadd, 1) := by decide +kernel
theorem dX6_known_71 : decode cX6_known 71 = .ok (.aload_n 0, 1) := by decide +kernel
theorem dX6_known_72 : decode cX6_known 72 = .ok (.getfield 7, 3) := by decide +kernel
theorem dX6_known_75 : decode cX6_known 75 = .ok (.iload_n 1, 1) := by decide +kernel
theorem dX6_known_76 : decode cX6_known 76 = .ok (.iaload, 1) := by decide +kernel
theorem dX6_known_77 : decode cX6_known 77 = .ok (.iastore, 1) := by decide +kernel
theorem dX6_known_78 : decode cX6_known 78 = .ok (.aload_n 0, 1) := by decide +kernel
theorem dX6_known_79 : decode cX6_known 79 = .ok (.getfield 23, 3) := by decide +kernel
theorem dX6_known_82 : decode cX6_known 82 = .ok (.iconst 4, 1) := by decide +kernel
theorem dX6_known_83 : decode cX6_known 83 = .ok (.aload_n 0, 1) := by decide +kernel
theorem dX6_known_84 : decode cX6_known 84 = .ok (.getfield 68, 3) := by decide +kernel
theorem dX6_known_87 : decode cX6_known 87 = .ok (.imul, 1) := by decide +kernel
theorem dX6_known_88 : decode cX6_known 88 = .ok (.iconst 2, 1) := by decide +kernel
theorem dX6_known_89 : decode cX6_known 89 = .ok (.iadd, 1) := by decide +kernel
theorem dX6_known_90 : decode cX6_known 90 = .ok (.iload_n 2, 1) := by decide +kernel
theorem dX6_known_91 : decode cX6_known 91 = .ok (.iastore, 1) := by decide +kernel
theorem dX6_known_92 : decode cX6_known 92 = .ok (.aload_n 0, 1) := by decide +kernel
theorem dX6_known_93 : decode cX6_known 93 = .ok (.getfield 23, 3) := by decide +kernel
theorem dX6_known_96 : decode cX6_known 96 = .ok (.iconst 4, 1) := by decide +kernel
theorem dX6_known_97 : decode cX6_known 97 = .ok (.aload_n 0, 1) := by decide +kernel
theorem dX6_known_98 : decode cX6_known 98 = .ok (.getfield 68, 3) := by decide +kernel
theorem dX6_known_101 : decode cX6_known 101 = .ok (.imul, 1) := by decide +kernel
theorem dX6_known_102 : decode cX6_known 102 = .ok (.iconst 3, 1) := by decide +kernel
theorem dX6_known_103 : decode cX6_known 103 = .ok (.iadd, 1) := by decide +kernel
theorem dX6_known_104 : decode cX6_known 104 = .ok (.aload_n 0, 1) := by decide +kernel
theorem dX6_known_105 : decode cX6_known 105 = .ok (.getfield 7, 3) := by decide +kernel
theorem dX6_known_108 : decode cX6_known 108 = .ok (.iload_n 2, 1) := by decide +kernel
theorem dX6_known_109 : decode cX6_known 109 = .ok (.iaload, 1) := by decide +kernel
theorem dX6_known_110 : decode cX6_known 110 = .ok (.iastore, 1) := by decide +kernel
theorem dX6_known_111 : decode cX6_known 111 = .ok (.aload_n 0, 1) := by decide +kernel
theorem dX6_known_112 : decode cX6_known 112 = .ok (.dup, 1) := by decide +kernel
theorem dX6_known_113 : decode cX6_known 113 = .ok (.getfield 68, 3) := by decide +kernel
theorem dX6_known_116 : decode cX6_known 116 = .ok (.iconst 1, 1) := by decide +kernel
theorem dX6_known_117 : decode cX6_known 117 = .ok (.iadd, 1) := by decide +kernel
theorem dX6_known_118 : decode cX6_known 118 = .ok (.putfield 68, 3) := by decide +kernel
theorem dX6_known_121 : decode cX6_known 121 = .ok (.return_, 1) := by decide +kernel
set_option maxRecDepth 20000 in
theorem ggX6_pads_X6_in : GoodIn wsX6_pads wsX6_in := goodIn_r _ [5] (by decide +kernel) (by decide +kernel)
set_option maxRecDepth 20000 in
theorem gX6_pads_X6_in : GoodIn wsX6_pads (va_wsS RX6 75 yX6_in wsX6_in) := goodIn_app (goodIn_of _ (by decide +kernel)) ggX6_pads_X6_in
set_option maxRecDepth 20000 in
theorem ggX6_pads_X6_known : GoodIn wsX6_pads wsX6_known := goodIn_r _ [9, 10, 11, 1, 12, 13, 14, 15, 16, 17, 18, 19, 20, 21, 22, 23, 24, 25, 26, 27, 28, 29, 30, 31, 32, 33] (by decide +kernel) (by decide +kernel)
set_option maxRecDepth 20000 in
theorem gX6_pads_X6_known : GoodIn wsX6_pads (wsV RX6 128 RX6 yX6_known wsX6_known) := goodIn_app (goodIn_of _ (by decide +kernel)) ggX6_pads_X6_known
theorem dX6_pads_0 : decode cX6_pads 0 = .ok (.iload_n 1, 1) := by decide +kernel
theorem dX6_pads_1 : decode cX6_pads 1 = .ok (.iconst 0, 1) := by decide +kernel
theorem dX6_pads_2 : decode cX6_pads 2 = .ok (.iconst 3, 1) := by decide +kernel
theorem dX6_pads_3 : decode cX6_pads 3 = .ok (.invokestatic 75, 3) := by decide +kernel
theorem dX6_pads_6 : decode cX6_pads 6 = .ok (.ifCond .eq 13, 3) := by decide +kernel
theorem dX6_pads_9 : decode cX6_pads 9 = .ok (.iload_n 2, 1) := by decide +kernel
theorem dX6_pads_10 : decode cX6_pads 10 = .ok (.iconst 0, 1) := by decide +kernel
theorem dX6_pads_11 : decode cX6_pads 11 = .ok (.bipush 10, 2) := by decide +kernel
theorem dX6_pads_13 : decode cX6_pads 13 = .ok (.invokestatic 75, 3) := by decide +kernel
theorem dX6_pads_16 : decode cX6_pads 16 = .ok (.ifCond .ne 5, 3) := by decide +kernel
theorem dX6_pads_19 : decode cX6_pads 19 = .ok (.iconst (-1), 1) := by decide +kernel
theorem dX6_pads_20 : decode cX6_pads 20 = .ok (.ireturn, 1) := by decide +kernel
theorem dX6_pads_21 : decode cX6_pads 21 = .ok (.aload_n 0, 1) := by decide +kernel
theorem dX6_pads_22 : decode cX6_pads 22 = .ok (.getfield 7, 3) := by decide +kernel
theorem dX6_pads_25 : decode cX6_pads 25 = .ok (.iconst 4, 1) := by decide +kernel
theorem dX6_pads_26 : decode cX6_pads 26 = .ok (.iload_n 1, 1) := by decide +kernel
theorem dX6_pads_27 : decode cX6_pads 27 = .ok (.iadd, 1) := by decide +kernel
theorem dX6_pads_28 : decode cX6_pads 28 = .ok (.iaload, 1) := by decide +kernel
theorem dX6_pads_29 : decode cX6_pads 29 = .ok (.istore_n 3, 1) := by decide +kernel
theorem dX6_pads_30 : decode cX6_pads 30 = .ok (.iload_n 3, 1) := by decide +kernel
theorem dX6_pads_31 : decode cX6_pads 31 = .ok (.iload_n 2, 1) := by decide +kernel
theorem dX6_pads_32 : decode cX6_pads 32 = .ok (.if_icmp .ne 6, 3) := by decide +kernel
theorem dX6_pads_35 : decode cX6_pads 35 = .ok (.bipush (-2), 2) := by decide +kernel
theorem dX6_pads_37 : decode cX6_pads 37 = .ok (.ireturn, 1) := by decide +kernel
theorem dX6_pads_38 : decode cX6_pads 38 = .ok (.aload_n 0, 1) := by decide +kernel
theorem dX6_pads_39 : decode cX6_pads 39 = .ok (.iconst 4, 1) := by decide +kernel
theorem dX6_pads_40 : decode cX6_pads 40 = .ok (.iload_n 1, 1) := by decide +kernel
theorem dX6_pads_41 : decode cX6_pads 41 = .ok (.iadd, 1) := by decide +kernel
theorem dX6_pads_42 : decode cX6_pads 42 = .ok (.iconst 4, 1) := by decide +kernel
theorem dX6_pads_43 : decode cX6_pads 43 = .ok (.iload_n 1, 1) := by decide +kernel
theorem dX6_pads_44 : decode cX6_pads 44 = .ok (.iadd, 1) := by decide +kernel
theorem dX6_pads_45 : decode cX6_pads 45 = .ok (.invokevirtual 128, 3) := by decide +kernel
theorem dX6_pads_48 : decode cX6_pads 48 = .ok (.aload_n 0, 1) := by decide +kernel
theorem dX6_pads_49 : decode cX6_pads 49 = .ok (.getfield 7, 3) := by decide +kernel
theorem dX6_pads_52 : decode cX6_pads 52 = .ok (.iconst 4, 1) := by decide +kernel
theorem dX6_pads_53 : decode cX6_pads 53 = .ok (.iload_n 1, 1) := by decide +kernel
theorem dX6_pads_54 : decode cX6_pads 54 = .ok (.iadd, 1) := by decide +kernel
theorem dX6_pads_55 : decode cX6_pads 55 = .ok (.iload_n 2, 1) := by decide +kernel
theorem dX6_pads_56 : decode cX6_pads 56 = .ok (.iastore, 1) := by decide +kernel
theorem dX6_pads_57 : decode cX6_pads 57 = .ok (.iload_n 3, 1) := by decide +kernel
theorem dX6_pads_58 : decode cX6_pads 58 = .ok (.ireturn, 1) := by decide +kernel
set_option maxRecDepth 20000 in
theorem ggX6_draws_X6_isCurtain : GoodIn wsX6_draws wsX6_isCurtain := goodIn_r _ [6, 1, 7, 8, 5, 9, 16, 17, 18, 19, 20, 21, 22, 23, 24, 25, 26, 27, 28, 29, 30, 31, 32, 33, 34, 35, 36, 37] (by decide +kernel) (by decide +kernel)
set_option maxRecDepth 20000 in
theorem gX6_draws_X6_isCurtain : GoodIn wsX6_draws (wsV RX6 125 RX6 yX6_isCurtain wsX6_isCurtain) := goodIn_app (goodIn_of _ (by decide +kernel)) ggX6_draws_X6_isCurtain
set_option maxRecDepth 20000 in
theorem ggX6_draws_X6_in : GoodIn wsX6_draws wsX6_in := goodIn_r _ [9] (by decide +kernel) (by decide +kernel)
set_option maxRecDepth 20000 in
theorem gX6_draws_X6_in : GoodIn wsX6_draws (va_wsS RX6 75 yX6_in wsX6_in) := goodIn_app (goodIn_of _ (by decide +kernel)) ggX6_draws_X6_in
set_option maxRecDepth 20000 in
theorem ggX6_draws_X6_known : GoodIn wsX6_draws wsX6_known := goodIn_r _ [13, 14, 15, 1, 16, 17, 18, 19, 20, 21, 22, 23, 24, 25, 26, 27, 28, 29, 30, 31, 32, 33, 34, 35, 36, 37] (by decide +kernel) (by decide +kernel)
set_option maxRecDepth 20000 in
theorem gX6_draws_X6_known : GoodIn wsX6_draws (wsV RX6 128 RX6 yX6_known wsX6_known) := goodIn_app (goodIn_of _ (by decide +kernel)) ggX6_draws_X6_known
theorem dX6_draws_0 : decode cX6_draws 0 = .ok (.aload_n 0, 1) := by decide +kernel
theorem dX6_draws_1 : decode cX6_draws 1 = .ok (.iload_n 1, 1) := by decide +kernel
theorem dX6_draws_2 : decode cX6_draws 2 = .ok (.invokevirtual 125, 3) := by decide +kernel
theorem dX6_draws_5 : decode cX6_draws 5 = .ok (.ifCond .eq 31, 3) := by decide +kernel
theorem dX6_draws_8 : decode cX6_draws 8 = .ok (.iload_n 2, 1) := by decide +kernel
theorem dX6_draws_9 : decode cX6_draws 9 = .ok (.iconst 0, 1) := by decide +kernel
theorem dX6_draws_10 : decode cX6_draws 10 = .ok (.aload_n 0, 1) := by decide +kernel
theorem dX6_draws_11 : decode cX6_draws 11 = .ok (.getfield 7, 3) := by decide +kernel
theorem dX6_draws_14 : decode cX6_draws 14 = .ok (.iconst 1, 1) := by decide +kernel
theorem dX6_draws_15 : decode cX6_draws 15 = .ok (.iaload, 1) := by decide +kernel
theorem dX6_draws_16 : decode cX6_draws 16 = .ok (.invokestatic 75, 3) := by decide +kernel
theorem dX6_draws_19 : decode cX6_draws 19 = .ok (.ifCond .eq 17, 3) := by decide +kernel
theorem dX6_draws_22 : decode cX6_draws 22 = .ok (.iload_n 3, 1) := by decide +kernel
theorem dX6_draws_23 : decode cX6_draws 23 = .ok (.iload_n 2, 1) := by decide +kernel
theorem dX6_draws_24 : decode cX6_draws 24 = .ok (.aload_n 0, 1) := by decide +kernel
theorem dX6_draws_25 : decode cX6_draws 25 = .ok (.getfield 7, 3) := by decide +kernel
theorem dX6_draws_28 : decode cX6_draws 28 = .ok (.iconst 1, 1) := by decide +kernel
theorem dX6_draws_29 : decode cX6_draws 29 = .ok (.iaload, 1) := by decide +kernel
theorem dX6_draws_30 : decode cX6_draws 30 = .ok (.invokestatic 75, 3) := by decide +kernel
theorem dX6_draws_33 : decode cX6_draws 33 = .ok (.ifCond .ne 5, 3) := by decide +kernel
theorem dX6_draws_36 : decode cX6_draws 36 = .ok (.iconst (-1), 1) := by decide +kernel
theorem dX6_draws_37 : decode cX6_draws 37 = .ok (.ireturn, 1) := by decide +kernel
theorem dX6_draws_38 : decode cX6_draws 38 = .ok (.bipush 100, 2) := by decide +kernel
theorem dX6_draws_40 : decode cX6_draws 40 = .ok (.aload_n 0, 1) := by decide +kernel
theorem dX6_draws_41 : decode cX6_draws 41 = .ok (.getfield 7, 3) := by decide +kernel
theorem dX6_draws_44 : decode cX6_draws 44 = .ok (.bipush 21, 2) := by decide +kernel
theorem dX6_draws_46 : decode cX6_draws 46 = .ok (.iload_n 1, 1) := by decide +kernel
theorem dX6_draws_47 : decode cX6_draws 47 = .ok (.iadd, 1) := by decide +kernel
theorem dX6_draws_48 : decode cX6_draws 48 = .ok (.iaload, 1) := by decide +kernel
theorem dX6_draws_49 : decode cX6_draws 49 = .ok (.imul, 1) := by decide +kernel
theorem dX6_draws_50 : decode cX6_draws 50 = .ok (.aload_n 0, 1) := by decide +kernel
theorem dX6_draws_51 : decode cX6_draws 51 = .ok (.getfield 7, 3) := by decide +kernel
theorem dX6_draws_54 : decode cX6_draws 54 = .ok (.bipush 24, 2) := by decide +kernel
theorem dX6_draws_56 : decode cX6_draws 56 = .ok (.iload_n 1, 1) := by decide +kernel
theorem dX6_draws_57 : decode cX6_draws 57 = .ok (.iadd, 1) := by decide +kernel
theorem dX6_draws_58 : decode cX6_draws 58 = .ok (.iaload, 1) := by decide +kernel
theorem dX6_draws_59 : decode cX6_draws 59 = .ok (.iadd, 1) := by decide +kernel
theorem dX6_draws_60 : decode cX6_draws 60 = .ok (.istore 4, 2) := by decide +kernel
theorem dX6_draws_62 : decode cX6_draws 62 = .ok (.iload 4, 2) := by decide +kernel
theorem dX6_draws_64 : decode cX6_draws 64 = .ok (.bipush 100, 2) := by decide +kernel
theorem dX6_draws_66 : decode cX6_draws 66 = .ok (.iload_n 2, 1) := by decide +kernel
theorem dX6_draws_67 : decode cX6_draws 67 = .ok (.imul, 1) := by decide +kernel
theorem dX6_draws_68 : decode cX6_draws 68 = .ok (.iload_n 3, 1) := by decide +kernel
theorem dX6_draws_69 : decode cX6_draws 69 = .ok (.iadd, 1) := by decide +kernel
theorem dX6_draws_70 : decode cX6_draws 70 = .ok (.if_icmp .ne 6, 3) := by decide +kernel
theorem dX6_draws_73 : decode cX6_draws 73 = .ok (.bipush (-2), 2) := by decide +kernel
theorem dX6_draws_75 : decode cX6_draws 75 = .ok (.ireturn, 1) := by decide +kernel
theorem dX6_draws_76 : decode cX6_draws 76 = .ok (.aload_n 0, 1) := by decide +kernel
theorem dX6_draws_77 : decode cX6_draws 77 = .ok (.bipush 21, 2) := by decide +kernel
theorem dX6_draws_79 : decode cX6_draws 79 = .ok (.iload_n 1, 1) := by decide +kernel
theorem dX6_draws_80 : decode cX6_draws 80 = .ok (.iadd, 1) := by decide +kernel
theorem dX6_draws_81 : decode cX6_draws 81 = .ok (.bipush 24, 2) := by decide +kernel
theorem dX6_draws_83 : decode cX6_draws 83 = .ok (.iload_n 1, 1) := by decide +kernel
theorem dX6_draws_84 : decode cX6_draws 84 = .ok (.iadd, 1) := by decide +kernel
theorem dX6_draws_85 : decode cX6_draws 85 = .ok (.invokevirtual 128, 3) := by decide +kernel
theorem dX6_draws_88 : decode cX6_draws 88 = .ok (.aload_n 0, 1) := by decide +kernel
theorem dX6_draws_89 : decode cX6_draws 89 = .ok (.getfield 7, 3) := by decide +kernel
theorem dX6_draws_92 : decode cX6_draws 92 = .ok (.bipush 21, 2) := by decide +kernel
theorem dX6_draws_94 : decode cX6_draws 94 = .ok (.iload_n 1, 1) := by decide +kernel
theorem dX6_draws_95 : decode cX6_draws 95 = .ok (.iadd, 1) := by decide +kernel
theorem dX6_draws_96 : decode cX6_draws 96 = .ok (.iload_n 2, 1) := by decide +kernel
theorem dX6_draws_97 : decode cX6_draws 97 = .ok (.iastore, 1) := by decide +kernel
theorem dX6_draws_98 : decode cX6_draws 98 = .ok (.aload_n 0, 1) := by decide +kernel
theorem dX6_draws_99 : decode cX6_draws 99 = .ok (.getfield 7, 3) := by decide +kernel
theorem dX6_draws_102 : decode cX6_draws 102 = .ok (.bipush 24, 2) := by decide +kernel
theorem dX6_draws_104 : decode cX6_draws 104 = .ok (.iload_n 1, 1) := by decide +kernel
theorem dX6_draws_105 : decode cX6_draws 105 = .ok (.iadd, 1) := by decide +kernel
theorem dX6_draws_106 : decode cX6_draws 106 = .ok (.iload_n 3, 1) := by decide +kernel
theorem dX6_draws_107 : decode cX6_draws 107 = .ok (.iastore, 1) := by decide +kernel
theorem dX6_draws_108 : decode cX6_draws 108 = .ok (.iload 4, 2) := by decide +kernel
theorem dX6_draws_110 : decode cX6_draws 110 = .ok (.ireturn, 1) := by decide +kernel
theorem dX6_sourceAt_0 : decode cX6_sourceAt 0 = .ok (.bipush 100, 2) := by decide +kernel
theorem dX6_sourceAt_2 : decode cX6_sourceAt 2 = .ok (.aload_n 0, 1) := by decide +kernel
theorem dX6_sourceAt_3 : decode cX6_sourceAt 3 = .ok (.getfield 7, 3) := by decide +kernel
theorem dX6_sourceAt_6 : decode cX6_sourceAt 6 = .ok (.iconst 2, 1) := by decide +kernel
theorem dX6_sourceAt_7 : decode cX6_sourceAt 7 = .ok (.iaload, 1) := by decide +kernel
theorem dX6_sourceAt_8 : decode cX6_sourceAt 8 = .ok (.imul, 1) := by decide +kernel
theorem dX6_sourceAt_9 : decode cX6_sourceAt 9 = .ok (.aload_n 0, 1) := by decide +kernel
theorem dX6_sourceAt_10 : decode cX6_sourceAt 10 = .ok (.getfield 7, 3) := by decide +kernel
theorem dX6_sourceAt_13 : decode cX6_sourceAt 13 = .ok (.iconst 3, 1) := by decide +kernel
theorem dX6_sourceAt_14 : decode cX6_sourceAt 14 = .ok (.iaload, 1) := by decide +kernel
theorem dX6_sourceAt_15 : decode cX6_sourceAt 15 = .ok (.iadd, 1) := by decide +kernel
theorem dX6_sourceAt_16 : decode cX6_sourceAt 16 = .ok (.ireturn, 1) := by decide +kernel
set_option maxRecDepth 20000 in
theorem ggX6_moves_X6_isWithin : GoodIn wsX6_moves wsX6_isWithin := goodIn_r _ [6, 1, 7, 8, 5, 9, 20, 21, 22, 23, 24, 25, 26, 27, 28, 29, 30, 31, 32, 33, 34, 35, 36, 37, 38, 39, 40, 41] (by decide +kernel) (by decide +kernel)
set_option maxRecDepth 20000 in
theorem gX6_moves_X6_isWithin : GoodIn wsX6_moves (wsV RX6 131 RX6 yX6_isWithin wsX6_isWithin) := goodIn_app (goodIn_of _ (by decide +kernel)) ggX6_moves_X6_isWithin
set_option maxRecDepth 20000 in
theorem ggX6_moves_X6_sourceAt : GoodIn wsX6_moves wsX6_sourceAt := goodIn_r _ [13, 1, 20, 21, 22, 23, 24, 25, 26, 27, 28, 29, 30, 31, 32, 33, 34, 35, 36, 37, 38, 39, 40, 41] (by decide +kernel) (by decide +kernel)
set_option maxRecDepth 20000 in
theorem gX6_moves_X6_sourceAt : GoodIn wsX6_moves (wsV RX6 134 RX6 yX6_sourceAt wsX6_sourceAt) := goodIn_app (goodIn_of _ (by decide +kernel)) ggX6_moves_X6_sourceAt
set_option maxRecDepth 20000 in
theorem ggX6_moves_X6_known : GoodIn wsX6_moves wsX6_known := goodIn_r _ [17, 18, 19, 1, 20, 21, 22, 23, 24, 25, 26, 27, 28, 29, 30, 31, 32, 33, 34, 35, 36, 37, 38, 39, 40, 41] (by decide +kernel) (by decide +kernel)
set_option maxRecDepth 20000 in
theorem gX6_moves_X6_known : GoodIn wsX6_moves (wsV RX6 128 RX6 yX6_known wsX6_known) := goodIn_app (goodIn_of _ (by decide +kernel)) ggX6_moves_X6_known
theorem dX6_moves_0 : decode cX6_moves 0 = .ok (.aload_n 0, 1) := by decide +kernel
theorem dX6_moves_1 : decode cX6_moves 1 = .ok (.iload_n 1, 1) := by decide +kernel
theorem dX6_moves_2 : decode cX6_moves 2 = .ok (.iload_n 2, 1) := by decide +kernel
theorem dX6_moves_3 : decode cX6_moves 3 = .ok (.invokevirtual 131, 3) := by decide +kernel
theorem dX6_moves_6 : decode cX6_moves 6 = .ok (.ifCond .ne 5, 3) := by decide +kernel
theorem dX6_moves_9 : decode cX6_moves 9 = .ok (.iconst (-1), 1) := by decide +kernel
theorem dX6_moves_10 : decode cX6_moves 10 = .ok (.ireturn, 1) := by decide +kernel
theorem dX6_moves_11 : decode cX6_moves 11 = .ok (.aload_n 0, 1) := by decide +kernel
theorem dX6_moves_12 : decode cX6_moves 12 = .ok (.invokevirtual 134, 3) := by decide +kernel
theorem dX6_moves_15 : decode cX6_moves 15 = .ok (.istore_n 3, 1) := by decide +kernel
theorem dX6_moves_16 : decode cX6_moves 16 = .ok (.iload_n 3, 1) := by decide +kernel
theorem dX6_moves_17 : decode cX6_moves 17 = .ok (.bipush 100, 2) := by decide +kernel
theorem dX6_moves_19 : decode cX6_moves 19 = .ok (.iload_n 1, 1) := by decide +kernel
theorem dX6_moves_20 : decode cX6_moves 20 = .ok (.imul, 1) := by decide +kernel
theorem dX6_moves_21 : decode cX6_moves 21 = .ok (.iload_n 2, 1) := by decide +kernel
theorem dX6_moves_22 : decode cX6_moves 22 = .ok (.iadd, 1) := by decide +kernel
theorem dX6_moves_23 : decode cX6_moves 23 = .ok (.if_icmp .ne 6, 3) := by decide +kernel
theorem dX6_moves_26 : decode cX6_moves 26 = .ok (.bipush (-2), 2) := by decide +kernel
theorem dX6_moves_28 : decode cX6_moves 28 = .ok (.ireturn, 1) := by decide +kernel
theorem dX6_moves_29 : decode cX6_moves 29 = .ok (.aload_n 0, 1) := by decide +kernel
theorem dX6_moves_30 : decode cX6_moves 30 = .ok (.iconst 2, 1) := by decide +kernel
theorem dX6_moves_31 : decode cX6_moves 31 = .ok (.iconst 3, 1) := by decide +kernel
theorem dX6_moves_32 : decode cX6_moves 32 = .ok (.invokevirtual 128, 3) := by decide +kernel
theorem dX6_moves_35 : decode cX6_moves 35 = .ok (.aload_n 0, 1) := by decide +kernel
theorem dX6_moves_36 : decode cX6_moves 36 = .ok (.getfield 7, 3) := by decide +kernel
theorem dX6_moves_39 : decode cX6_moves 39 = .ok (.iconst 2, 1) := by decide +kernel
theorem dX6_moves_40 : decode cX6_moves 40 = .ok (.iload_n 1, 1) := by decide +kernel
theorem dX6_moves_41 : decode cX6_moves 41 = .ok (.iastore, 1) := by decide +kernel
theorem dX6_moves_42 : decode cX6_moves 42 = .ok (.aload_n 0, 1) := by decide +kernel
theorem dX6_moves_43 : decode cX6_moves 43 = .ok (.getfield 7, 3) := by decide +kernel
theorem dX6_moves_46 : decode cX6_moves 46 = .ok (.iconst 3, 1) := by decide +kernel
theorem dX6_moves_47 : decode cX6_moves 47 = .ok (.iload_n 2, 1) := by decide +kernel
theorem dX6_moves_48 : decode cX6_moves 48 = .ok (.iastore, 1) := by decide +kernel
theorem dX6_moves_49 : decode cX6_moves 49 = .ok (.iload_n 3, 1) := by decide +kernel
theorem dX6_moves_50 : decode cX6_moves 50 = .ok (.ireturn, 1) := by decide +kernel
theorem dX6_undo_0 : decode cX6_undo 0 = .ok (.aload_n 0, 1) := by decide +kernel
theorem dX6_undo_1 : decode cX6_undo 1 = .ok (.getfield 68, 3) := by decide +kernel
theorem dX6_undo_4 : decode cX6_undo 4 = .ok (.ifCond .ne 6, 3) := by decide +kernel
theorem dX6_undo_7 : decode cX6_undo 7 = .ok (.bipush (-2), 2) := by decide +kernel
theorem dX6_undo_9 : decode cX6_undo 9 = .ok (.ireturn, 1) := by decide +kernel
theorem dX6_undo_10 : decode cX6_undo 10 = .ok (.aload_n 0, 1) := by decide +kernel
theorem dX6_undo_11 : decode cX6_undo 11 = .ok (.dup, 1) := by decide +kernel
theorem dX6_undo_12 : decode cX6_undo 12 = .ok (.getfield 68, 3) := by decide +kernel
theorem dX6_undo_15 : decode cX6_undo 15 = .ok (.iconst 1, 1) := by decide +kernel
theorem dX6_undo_16 : decode cX6_undo 16 = .ok (.isub, 1) := by decide +kernel
theorem dX6_undo_17 : decode cX6_undo 17 = .ok (.putfield 68, 3) := by decide +kernel
theorem dX6_undo_20 : decode cX6_undo 20 = .ok (.aload_n 0, 1) := by decide +kernel
theorem dX6_undo_21 : decode cX6_undo 21 = .ok (.getfield 7, 3) := by decide +kernel
theorem dX6_undo_24 : decode cX6_undo 24 = .ok (.aload_n 0, 1) := by decide +kernel
theorem dX6_undo_25 : decode cX6_undo 25 = .ok (.getfield 23, 3) := by decide +kernel
theorem dX6_undo_28 : decode cX6_undo 28 = .ok (.iconst 4, 1) := by decide +kernel
theorem dX6_undo_29 : decode cX6_undo 29 = .ok (.aload_n 0, 1) := by decide +kernel
theorem dX6_undo_30 : decode cX6_undo 30 = .ok (.getfield 68, 3) := by decide +kernel
theorem dX6_undo_33 : decode cX6_undo 33 = .ok (.imul, 1) := by decide +kernel
theorem dX6_undo_34 : decode cX6_undo 34 = .ok (.iaload, 1) := by decide +kernel
theorem dX6_undo_35 : decode cX6_undo 35 = .ok (.aload_n 0, 1) := by decide +kernel
theorem dX6_undo_36 : decode cX6_undo 36 = .ok (.getfield 23, 3) := by decide +kernel
theorem dX6_undo_39 : decode cX6_undo 39 = .ok (.iconst 4, 1) := by decide +kernel
theorem dX6_undo_40 : decode cX6_undo 40 = .ok (.aload_n 0, 1) := by decide +kernel
theorem dX6_undo_41 : decode cX6_undo 41 = .ok (.getfield 68, 3) := by decide +kernel
theorem dX6_undo_44 : decode cX6_undo 44 = .ok (.imul, 1) := by decide +kernel
theorem dX6_undo_45 : decode cX6_undo 45 = .ok (.iconst 1, 1) := by decide +kernel
theorem dX6_undo_46 : decode cX6_undo 46 = .ok (.iadd, 1) := by decide +kernel
theorem dX6_undo_47 : decode cX6_undo 47 = .ok (.iaload, 1) := by decide +kernel
theorem dX6_undo_48 : decode cX6_undo 48 = .ok (.iastore, 1) := by decide +kernel
theorem dX6_undo_49 : decode cX6_undo 49 = .ok (.aload_n 0, 1) := by decide +kernel
theorem dX6_undo_50 : decode cX6_undo 50 = .ok (.getfield 7, 3) := by decide +kernel
theorem dX6_undo_53 : decode cX6_undo 53 = .ok (.aload_n 0, 1) := by decide +kernel
theorem dX6_undo_54 : decode cX6_undo 54 = .ok (.getfield 23, 3) := by decide +kernel
theorem dX6_undo_57 : decode cX6_undo 57 = .ok (.iconst 4, 1) := by decide +kernel
theorem dX6_undo_58 : decode cX6_undo 58 = .ok (.aload_n 0, 1) := by decide +kernel
theorem dX6_undo_59 : decode cX6_undo 59 = .ok (.getfield 68, 3) := by decide +kernel
theorem dX6_undo_62 : decode cX6_undo 62 = .ok (.imul, 1) := by decide +kernel
theorem dX6_undo_63 : decode cX6_undo 63 = .ok (.iconst 2, 1) := by decide +kernel
theorem dX6_undo_64 : decode cX6_undo 64 = .ok (.iadd, 1) := by decide +kernel
theorem dX6_undo_65 : decode cX6_undo 65 = .ok (.iaload, 1) := by decide +kernel
theorem dX6_undo_66 : decode cX6_undo 66 = .ok (.aload_n 0, 1) := by decide +kernel
theorem dX6_undo_67 : decode cX6_undo 67 = .ok (.getfield 23, 3) := by decide +kernel
theorem dX6_undo_70 : decode cX6_undo 70 = .ok (.iconst 4, 1) := by decide +kernel
theorem dX6_undo_71 : decode cX6_undo 71 = .ok (.aload_n 0, 1) := by decide +kernel
theorem dX6_undo_72 : decode cX6_undo 72 = .ok (.getfield 68, 3) := by decide +kernel
theorem dX6_undo_75 : decode cX6_undo 75 = .ok (.imul, 1) := by decide +kernel
theorem dX6_undo_76 : decode cX6_undo 76 = .ok (.iconst 3, 1) := by decide +kernel
theorem dX6_undo_77 : decode cX6_undo 77 = .ok (.iadd, 1) := by decide +kernel
theorem dX6_undo_78 : decode cX6_undo 78 = .ok (.iaload, 1) := by decide +kernel
theorem dX6_undo_79 : decode cX6_undo 79 = .ok (.iastore, 1) := by decide +kernel
theorem dX6_undo_80 : decode cX6_undo 80 = .ok (.aload_n 0, 1) := by decide +kernel
theorem dX6_undo_81 : decode cX6_undo 81 = .ok (.getfield 68, 3) := by decide +kernel
theorem dX6_undo_84 : decode cX6_undo 84 = .ok (.ireturn, 1) := by decide +kernel
theorem dX6_mirrored_0 : decode cX6_mirrored 0 = .ok (.iload_n 0, 1) := by decide +kernel
theorem dX6_mirrored_1 : decode cX6_mirrored 1 = .ok (.iload_n 1, 1) := by decide +kernel
theorem dX6_mirrored_2 : decode cX6_mirrored 2 = .ok (.imul, 1) := by decide +kernel
theorem dX6_mirrored_3 : decode cX6_mirrored 3 = .ok (.iload_n 0, 1) := by decide +kernel
theorem dX6_mirrored_4 : decode cX6_mirrored 4 = .ok (.iconst 2, 1) := by decide +kernel
theorem dX6_mirrored_5 : decode cX6_mirrored 5 = .ok (.irem, 1) := by decide +kernel
theorem dX6_mirrored_6 : decode cX6_mirrored 6 = .ok (.ifCond .ne 7, 3) := by decide +kernel
theorem dX6_mirrored_9 : decode cX6_mirrored 9 = .ok (.iload_n 2, 1) := by decide +kernel
theorem dX6_mirrored_10 : decode cX6_mirrored 10 = .ok (.goto 6, 3) := by decide +kernel
theorem dX6_mirrored_13 : decode cX6_mirrored 13 = .ok (.iload_n 1, 1) := by decide +kernel
theorem dX6_mirrored_14 : decode cX6_mirrored 14 = .ok (.iload_n 2, 1) := by decide +kernel
theorem dX6_mirrored_15 : decode cX6_mirrored 15 = .ok (.isub, 1) := by decide +kernel
theorem dX6_mirrored_16 : decode cX6_mirrored 16 = .ok (.iadd, 1) := by decide +kernel
theorem dX6_mirrored_17 : decode cX6_mirrored 17 = .ok (.ireturn, 1) := by decide +kernel
set_option maxRecDepth 20000 in
theorem ggX6_times_X6_size : GoodIn wsX6_times wsX6_size := goodIn_r _ [4] (by decide +kernel) (by decide +kernel)
set_option maxRecDepth 20000 in
theorem gX6_times_X6_size : GoodIn wsX6_times (va_wsS RX6 79 yX6_size wsX6_size) := goodIn_app (goodIn_of _ (by decide +kernel)) ggX6_times_X6_size
theorem dX6_times_0 : decode cX6_times 0 = .ok (.iload_n 0, 1) := by decide +kernel
theorem dX6_times_1 : decode cX6_times 1 = .ok (.iconst 2, 1) := by decide +kernel
theorem dX6_times_2 : decode cX6_times 2 = .ok (.if_icmp .ge 7, 3) := by decide +kernel
theorem dX6_times_5 : decode cX6_times 5 = .ok (.iload_n 1, 1) := by decide +kernel
theorem dX6_times_6 : decode cX6_times 6 = .ok (.goto 4, 3) := by decide +kernel
theorem dX6_times_9 : decode cX6_times 9 = .ok (.iload_n 2, 1) := by decide +kernel
theorem dX6_times_10 : decode cX6_times 10 = .ok (.istore_n 3, 1) := by decide +kernel
theorem dX6_times_11 : decode cX6_times 11 = .ok (.iload_n 0, 1) := by decide +kernel
theorem dX6_times_12 : decode cX6_times 12 = .ok (.iconst 2, 1) := by decide +kernel
theorem dX6_times_13 : decode cX6_times 13 = .ok (.irem, 1) := by decide +kernel
theorem dX6_times_14 : decode cX6_times 14 = .ok (.ifCond .ne 7, 3) := by decide +kernel
theorem dX6_times_17 : decode cX6_times 17 = .ok (.iconst 1, 1) := by decide +kernel
theorem dX6_times_18 : decode cX6_times 18 = .ok (.goto 4, 3) := by decide +kernel
theorem dX6_times_21 : decode cX6_times 21 = .ok (.iconst 0, 1) := by decide +kernel
theorem dX6_times_22 : decode cX6_times 22 = .ok (.istore 4, 2) := by decide +kernel
theorem dX6_times_24 : decode cX6_times 24 = .ok (.iload_n 3, 1) := by decide +kernel
theorem dX6_times_25 : decode cX6_times 25 = .ok (.ifCond .le 7, 3) := by decide +kernel
theorem dX6_times_28 : decode cX6_times 28 = .ok (.iconst 1, 1) := by decide +kernel
theorem dX6_times_29 : decode cX6_times 29 = .ok (.goto 4, 3) := by decide +kernel
theorem dX6_times_32 : decode cX6_times 32 = .ok (.iconst 0, 1) := by decide +kernel
theorem dX6_times_33 : decode cX6_times 33 = .ok (.iload 4, 2) := by decide +kernel
theorem dX6_times_35 : decode cX6_times 35 = .ok (.if_icmp .ne 12, 3) := by decide +kernel
theorem dX6_times_38 : decode cX6_times 38 = .ok (.iload_n 3, 1) := by decide +kernel
theorem dX6_times_39 : decode cX6_times 39 = .ok (.invokestatic 79, 3) := by decide +kernel
theorem dX6_times_42 : decode cX6_times 42 = .ok (.iconst 2, 1) := by decide +kernel
theorem dX6_times_43 : decode cX6_times 43 = .ok (.idiv, 1) := by decide +kernel
theorem dX6_times_44 : decode cX6_times 44 = .ok (.goto 11, 3) := by decide +kernel
theorem dX6_times_47 : decode cX6_times 47 = .ok (.iload_n 3, 1) := by decide +kernel
theorem dX6_times_48 : decode cX6_times 48 = .ok (.invokestatic 79, 3) := by decide +kernel
theorem dX6_times_51 : decode cX6_times 51 = .ok (.iconst 1, 1) := by decide +kernel
theorem dX6_times_52 : decode cX6_times 52 = .ok (.iadd, 1) := by decide +kernel
theorem dX6_times_53 : decode cX6_times 53 = .ok (.iconst 2, 1) := by decide +kernel
theorem dX6_times_54 : decode cX6_times 54 = .ok (.idiv, 1) := by decide +kernel
theorem dX6_times_55 : decode cX6_times 55 = .ok (.ireturn, 1) := by decide +kernel
set_option maxRecDepth 20000 in
theorem ggX6_softTimes_X6_times : GoodIn wsX6_softTimes wsX6_times := goodIn_r _ [5, 6, 7, 4, 8] (by decide +kernel) (by decide +kernel)
set_option maxRecDepth 20000 in
theorem gX6_softTimes_X6_times : GoodIn wsX6_softTimes (va_wsS RX6 138 yX6_times wsX6_times) := goodIn_app (goodIn_of _ (by decide +kernel)) ggX6_softTimes_X6_times
theorem dX6_softTimes_0 : decode cX6_softTimes 0 = .ok (.iconst 0, 1) := by decide +kernel
theorem dX6_softTimes_1 : decode cX6_softTimes 1 = .ok (.istore_n 3, 1) := by decide +kernel
theorem dX6_softTimes_2 : decode cX6_softTimes 2 = .ok (.iconst 0, 1) := by decide +kernel
theorem dX6_softTimes_3 : decode cX6_softTimes 3 = .ok (.istore 4, 2) := by decide +kernel
theorem dX6_softTimes_5 : decode cX6_softTimes 5 = .ok (.iload 4, 2) := by decide +kernel
theorem dX6_softTimes_7 : decode cX6_softTimes 7 = .ok (.iconst 4, 1) := by decide +kernel
theorem dX6_softTimes_8 : decode cX6_softTimes 8 = .ok (.if_icmp .ge 35, 3) := by decide +kernel
theorem dX6_softTimes_11 : decode cX6_softTimes 11 = .ok (.iload_n 3, 1) := by decide +kernel
theorem dX6_softTimes_12 : decode cX6_softTimes 12 = .ok (.aload_n 0, 1) := by decide +kernel
theorem dX6_softTimes_13 : decode cX6_softTimes 13 = .ok (.getfield 7, 3) := by decide +kernel
theorem dX6_softTimes_16 : decode cX6_softTimes 16 = .ok (.iconst 4, 1) := by decide +kernel
theorem dX6_softTimes_17 : decode cX6_softTimes 17 = .ok (.iload 4, 2) := by decide +kernel
theorem dX6_softTimes_19 : decode cX6_softTimes 19 = .ok (.iadd, 1) := by decide +kernel
theorem dX6_softTimes_20 : decode cX6_softTimes 20 = .ok (.iaload, 1) := by decide +kernel
theorem dX6_softTimes_21 : decode cX6_softTimes 21 = .ok (.ifCond .le 13, 3) := by decide +kernel
theorem dX6_softTimes_24 : decode cX6_softTimes 24 = .ok (.iload 4, 2) := by decide +kernel
theorem dX6_softTimes_26 : decode cX6_softTimes 26 = .ok (.iload_n 1, 1) := by decide +kernel
theorem dX6_softTimes_27 : decode cX6_softTimes 27 = .ok (.iload_n 2, 1) := by decide +kernel
theorem dX6_softTimes_28 : decode cX6_softTimes 28 = .ok (.invokestatic 138, 3) := by decide +kernel
theorem dX6_softTimes_31 : decode cX6_softTimes 31 = .ok (.goto 4, 3) := by decide +kernel
theorem dX6_softTimes_34 : decode cX6_softTimes 34 = .ok (.iconst 0, 1) := by decide +kernel
theorem dX6_softTimes_35 : decode cX6_softTimes 35 = .ok (.iadd, 1) := by decide +kernel
theorem dX6_softTimes_36 : decode cX6_softTimes 36 = .ok (.istore_n 3, 1) := by decide +kernel
theorem dX6_softTimes_37 : decode cX6_softTimes 37 = .ok (.iinc 4 1, 3) := by decide +kernel
theorem dX6_softTimes_40 : decode cX6_softTimes 40 = .ok (.goto (-35), 3) := by decide +kernel
theorem dX6_softTimes_43 : decode cX6_softTimes 43 = .ok (.iload_n 3, 1) := by decide +kernel
theorem dX6_softTimes_44 : decode cX6_softTimes 44 = .ok (.ireturn, 1) := by decide +kernel
set_option maxRecDepth 20000 in
theorem ggX6_mirror_X6_isImage : GoodIn wsX6_mirror wsX6_isImage := goodIn_r _ [6, 7, 8, 5, 9, 10, 11, 12] (by decide +kernel) (by decide +kernel)
set_option maxRecDepth 20000 in
theorem gX6_mirror_X6_isImage : GoodIn wsX6_mirror (va_wsS RX6 142 yX6_isImage wsX6_isImage) := goodIn_app (goodIn_of _ (by decide +kernel)) ggX6_mirror_X6_isImage
set_option maxRecDepth 20000 in
theorem ggX6_mirror_X6_in : GoodIn wsX6_mirror wsX6_in := goodIn_r _ [9] (by decide +kernel) (by decide +kernel)
set_option maxRecDepth 20000 in
theorem gX6_mirror_X6_in : GoodIn wsX6_mirror (va_wsS RX6 75 yX6_in wsX6_in) := goodIn_app (goodIn_of _ (by decide +kernel)) ggX6_mirror_X6_in
set_option maxRecDepth 20000 in
theorem ggX6_mirror_X6_mirrored : GoodIn wsX6_mirror wsX6_mirrored := goodIn_r _ [15] (by decide +kernel) (by decide +kernel)
set_option maxRecDepth 20000 in
theorem gX6_mirror_X6_mirrored : GoodIn wsX6_mirror (va_wsS RX6 146 yX6_mirrored wsX6_mirrored) := goodIn_app (goodIn_of _ (by decide +kernel)) ggX6_mirror_X6_mirrored
set_option maxRecDepth 20000 in
theorem ggX6_mirror_X6_size : GoodIn wsX6_mirror wsX6_size := goodIn_r _ [12] (by decide +kernel) (by decide +kernel)
set_option maxRecDepth 20000 in
theorem gX6_mirror_X6_size : GoodIn wsX6_mirror (va_wsS RX6 79 yX6_size wsX6_size) := goodIn_app (goodIn_of _ (by decide +kernel)) ggX6_mirror_X6_size
set_option maxRecDepth 20000 in
theorem ggX6_mirror_X6_softTimes : GoodIn wsX6_mirror wsX6_softTimes := goodIn_r _ [19, 2, 20, 21, 5, 22, 10, 11, 12, 23, 24, 25, 26, 27, 28, 29, 30, 31, 32, 33, 34, 35, 36, 37, 38, 39, 40, 41, 42, 43, 44] (by decide +kernel) (by decide +kernel)
set_option maxRecDepth 20000 in
theorem gX6_mirror_X6_softTimes : GoodIn wsX6_mirror (wsV RX6 149 RX6 yX6_softTimes wsX6_softTimes) := goodIn_app (goodIn_of _ (by decide +kernel)) ggX6_mirror_X6_softTimes
theorem dX6_mirror_0 : decode cX6_mirror 0 = .ok (.iload_n 1, 1) := by decide +kernel
theorem dX6_mirror_1 : decode cX6_mirror 1 = .ok (.iload_n 2, 1) := by decide +kernel
theorem dX6_mirror_2 : decode cX6_mirror 2 = .ok (.invokestatic 142, 3) := by decide +kernel
theorem dX6_mirror_5 : decode cX6_mirror 5 = .ok (.ifCond .eq 12, 3) := by decide +kernel
theorem dX6_mirror_8 : decode cX6_mirror 8 = .ok (.iload_n 3, 1) := by decide +kernel
theorem dX6_mirror_9 : decode cX6_mirror 9 = .ok (.iconst 0, 1) := by decide +kernel
theorem dX6_mirror_10 : decode cX6_mirror 10 = .ok (.iconst 3, 1) := by decide +kernel
theorem dX6_mirror_11 : decode cX6_mirror 11 = .ok (.invokestatic 75, 3) := by decide +kernel
theorem dX6_mirror_14 : decode cX6_mirror 14 = .ok (.ifCond .ne 6, 3) := by decide +kernel
theorem dX6_mirror_17 : decode cX6_mirror 17 = .ok (.ldc 145, 2) := by decide +kernel
theorem dX6_mirror_19 : decode cX6_mirror 19 = .ok (.ireturn, 1) := by decide +kernel
theorem dX6_mirror_20 : decode cX6_mirror 20 = .ok (.iload_n 3, 1) := by decide +kernel
theorem dX6_mirror_21 : decode cX6_mirror 21 = .ok (.ifCond .ne 22, 3) := by decide +kernel
theorem dX6_mirror_24 : decode cX6_mirror 24 = .ok (.iload_n 1, 1) := by decide +kernel
theorem dX6_mirror_25 : decode cX6_mirror 25 = .ok (.aload_n 0, 1) := by decide +kernel
theorem dX6_mirror_26 : decode cX6_mirror 26 = .ok (.getfield 7, 3) := by decide +kernel
theorem dX6_mirror_29 : decode cX6_mirror 29 = .ok (.iconst 0, 1) := by decide +kernel
theorem dX6_mirror_30 : decode cX6_mirror 30 = .ok (.iaload, 1) := by decide +kernel
theorem dX6_mirror_31 : decode cX6_mirror 31 = .ok (.aload_n 0, 1) := by decide +kernel
theorem dX6_mirror_32 : decode cX6_mirror 32 = .ok (.getfield 7, 3) := by decide +kernel
theorem dX6_mirror_35 : decode cX6_mirror 35 = .ok (.iconst 2, 1) := by decide +kernel
theorem dX6_mirror_36 : decode cX6_mirror 36 = .ok (.iaload, 1) := by decide +kernel
theorem dX6_mirror_37 : decode cX6_mirror 37 = .ok (.invokestatic 146, 3) := by decide +kernel
theorem dX6_mirror_40 : decode cX6_mirror 40 = .ok (.goto 50, 3) := by decide +kernel
theorem dX6_mirror_43 : decode cX6_mirror 43 = .ok (.iload_n 3, 1) := by decide +kernel
theorem dX6_mirror_44 : decode cX6_mirror 44 = .ok (.iconst 1, 1) := by decide +kernel
theorem dX6_mirror_45 : decode cX6_mirror 45 = .ok (.if_icmp .ne 22, 3) := by decide +kernel
theorem dX6_mirror_48 : decode cX6_mirror 48 = .ok (.iload_n 2, 1) := by decide +kernel
theorem dX6_mirror_49 : decode cX6_mirror 49 = .ok (.aload_n 0, 1) := by decide +kernel
theorem dX6_mirror_50 : decode cX6_mirror 50 = .ok (.getfield 7, 3) := by decide +kernel
theorem dX6_mirror_53 : decode cX6_mirror 53 = .ok (.iconst 1, 1) := by decide +kernel
theorem dX6_mirror_54 : decode cX6_mirror 54 = .ok (.iaload, 1) := by decide +kernel
theorem dX6_mirror_55 : decode cX6_mirror 55 = .ok (.aload_n 0, 1) := by decide +kernel
theorem dX6_mirror_56 : decode cX6_mirror 56 = .ok (.getfield 7, 3) := by decide +kernel
theorem dX6_mirror_59 : decode cX6_mirror 59 = .ok (.iconst 3, 1) := by decide +kernel
theorem dX6_mirror_60 : decode cX6_mirror 60 = .ok (.iaload, 1) := by decide +kernel
theorem dX6_mirror_61 : decode cX6_mirror 61 = .ok (.invokestatic 146, 3) := by decide +kernel
theorem dX6_mirror_64 : decode cX6_mirror 64 = .ok (.goto 26, 3) := by decide +kernel
theorem dX6_mirror_67 : decode cX6_mirror 67 = .ok (.iload_n 3, 1) := by decide +kernel
theorem dX6_mirror_68 : decode cX6_mirror 68 = .ok (.iconst 2, 1) := by decide +kernel
theorem dX6_mirror_69 : decode cX6_mirror 69 = .ok (.if_icmp .ne 15, 3) := by decide +kernel
theorem dX6_mirror_72 : decode cX6_mirror 72 = .ok (.iload_n 1, 1) := by decide +kernel
theorem dX6_mirror_73 : decode cX6_mirror 73 = .ok (.invokestatic 79, 3) := by decide +kernel
theorem dX6_mirror_76 : decode cX6_mirror 76 = .ok (.iload_n 2, 1) := by decide +kernel
theorem dX6_mirror_77 : decode cX6_mirror 77 = .ok (.invokestatic 79, 3) := by decide +kernel
theorem dX6_mirror_80 : decode cX6_mirror 80 = .ok (.iadd, 1) := by decide +kernel
theorem dX6_mirror_81 : decode cX6_mirror 81 = .ok (.goto 9, 3) := by decide +kernel
theorem dX6_mirror_84 : decode cX6_mirror 84 = .ok (.aload_n 0, 1) := by decide +kernel
theorem dX6_mirror_85 : decode cX6_mirror 85 = .ok (.iload_n 1, 1) := by decide +kernel
theorem dX6_mirror_86 : decode cX6_mirror 86 = .ok (.iload_n 2, 1) := by decide +kernel
theorem dX6_mirror_87 : decode cX6_mirror 87 = .ok (.invokevirtual 149, 3) := by decide +kernel
theorem dX6_mirror_90 : decode cX6_mirror 90 = .ok (.ireturn, 1) := by decide +kernel
set_option maxRecDepth 20000 in
theorem ggX6_wayOf_X6_mirrored : GoodIn wsX6_wayOf wsX6_mirrored := goodIn_r _ [5] (by decide +kernel) (by decide +kernel)
set_option maxRecDepth 20000 in
theorem gX6_wayOf_X6_mirrored : GoodIn wsX6_wayOf (va_wsS RX6 146 yX6_mirrored wsX6_mirrored) := goodIn_app (goodIn_of _ (by decide +kernel)) ggX6_wayOf_X6_mirrored
theorem dX6_wayOf_0 : decode cX6_wayOf 0 = .ok (.iload_n 1, 1) := by decide +kernel
theorem dX6_wayOf_1 : decode cX6_wayOf 1 = .ok (.aload_n 0, 1) := by decide +kernel
theorem dX6_wayOf_2 : decode cX6_wayOf 2 = .ok (.getfield 7, 3) := by decide +kernel
theorem dX6_wayOf_5 : decode cX6_wayOf 5 = .ok (.iconst 0, 1) := by decide +kernel
theorem dX6_wayOf_6 : decode cX6_wayOf 6 = .ok (.iaload, 1) := by decide +kernel
theorem dX6_wayOf_7 : decode cX6_wayOf 7 = .ok (.aload_n 0, 1) := by decide +kernel
theorem dX6_wayOf_8 : decode cX6_wayOf 8 = .ok (.getfield 7, 3) := by decide +kernel
theorem dX6_wayOf_11 : decode cX6_wayOf 11 = .ok (.iconst 2, 1) := by decide +kernel
theorem dX6_wayOf_12 : decode cX6_wayOf 12 = .ok (.iaload, 1) := by decide +kernel
theorem dX6_wayOf_13 : decode cX6_wayOf 13 = .ok (.invokestatic 146, 3) := by decide +kernel
theorem dX6_wayOf_16 : decode cX6_wayOf 16 = .ok (.iload_n 3, 1) := by decide +kernel
theorem dX6_wayOf_17 : decode cX6_wayOf 17 = .ok (.isub, 1) := by decide +kernel
theorem dX6_wayOf_18 : decode cX6_wayOf 18 = .ok (.istore 5, 2) := by decide +kernel
theorem dX6_wayOf_20 : decode cX6_wayOf 20 = .ok (.iload_n 2, 1) := by decide +kernel
theorem dX6_wayOf_21 : decode cX6_wayOf 21 = .ok (.aload_n 0, 1) := by decide +kernel
theorem dX6_wayOf_22 : decode cX6_wayOf 22 = .ok (.getfield 7, 3) := by decide +kernel
theorem dX6_wayOf_25 : decode cX6_wayOf 25 = .ok (.iconst 1, 1) := by decide +kernel
theorem dX6_wayOf_26 : decode cX6_wayOf 26 = .ok (.iaload, 1) := by decide +kernel
theorem dX6_wayOf_27 : decode cX6_wayOf 27 = .ok (.aload_n 0, 1) := by decide +kernel
theorem dX6_wayOf_28 : decode cX6_wayOf 28 = .ok (.getfield 7, 3) := by decide +kernel
theorem dX6_wayOf_31 : decode cX6_wayOf 31 = .ok (.iconst 3, 1) := by decide +kernel
theorem dX6_wayOf_32 : decode cX6_wayOf 32 = .ok (.iaload, 1) := by decide +kernel
theorem dX6_wayOf_33 : decode cX6_wayOf 33 = .ok (.invokestatic 146, 3) := by decide +kernel
theorem dX6_wayOf_36 : decode cX6_wayOf 36 = .ok (.iload 4, 2) := by decide +kernel
theorem dX6_wayOf_38 : decode cX6_wayOf 38 = .ok (.isub, 1) := by decide +kernel
theorem dX6_wayOf_39 : decode cX6_wayOf 39 = .ok (.istore 6, 2) := by decide +kernel
theorem dX6_wayOf_41 : decode cX6_wayOf 41 = .ok (.iload 5, 2) := by decide +kernel
theorem dX6_wayOf_43 : decode cX6_wayOf 43 = .ok (.iload 5, 2) := by decide +kernel
theorem dX6_wayOf_45 : decode cX6_wayOf 45 = .ok (.imul, 1) := by decide +kernel
theorem dX6_wayOf_46 : decode cX6_wayOf 46 = .ok (.iload 6, 2) := by decide +kernel
theorem dX6_wayOf_48 : decode cX6_wayOf 48 = .ok (.iload 6, 2) := by decide +kernel
theorem dX6_wayOf_50 : decode cX6_wayOf 50 = .ok (.imul, 1) := by decide +kernel
theorem dX6_wayOf_51 : decode cX6_wayOf 51 = .ok (.iadd, 1) := by decide +kernel
theorem dX6_wayOf_52 : decode cX6_wayOf 52 = .ok (.ireturn, 1) := by decide +kernel
theorem dX6_timeOf_0 : decode cX6_timeOf 0 = .ok (.iconst 0, 1) := by decide +kernel
theorem dX6_timeOf_1 : decode cX6_timeOf 1 = .ok (.istore_n 1, 1) := by decide +kernel
theorem dX6_timeOf_2 : decode cX6_timeOf 2 = .ok (.sipush 2000, 3) := by decide +kernel
theorem dX6_timeOf_5 : decode cX6_timeOf 5 = .ok (.istore_n 2, 1) := by decide +kernel
theorem dX6_timeOf_6 : decode cX6_timeOf 6 = .ok (.iload_n 1, 1) := by decide +kernel
theorem dX6_timeOf_7 : decode cX6_timeOf 7 = .ok (.iload_n 2, 1) := by decide +kernel
theorem dX6_timeOf_8 : decode cX6_timeOf 8 = .ok (.if_icmp .ge 33, 3) := by decide +kernel
theorem dX6_timeOf_11 : decode cX6_timeOf 11 = .ok (.iload_n 1, 1) := by decide +kernel
theorem dX6_timeOf_12 : decode cX6_timeOf 12 = .ok (.iload_n 2, 1) := by decide +kernel
theorem dX6_timeOf_13 : decode cX6_timeOf 13 = .ok (.iadd, 1) := by decide +kernel
theorem dX6_timeOf_14 : decode cX6_timeOf 14 = .ok (.iconst 1, 1) := by decide +kernel
theorem dX6_timeOf_15 : decode cX6_timeOf 15 = .ok (.iadd, 1) := by decide +kernel
theorem dX6_timeOf_16 : decode cX6_timeOf 16 = .ok (.iconst 2, 1) := by decide +kernel
theorem dX6_timeOf_17 : decode cX6_timeOf 17 = .ok (.idiv, 1) := by decide +kernel
theorem dX6_timeOf_18 : decode cX6_timeOf 18 = .ok (.istore_n 3, 1) := by decide +kernel
theorem dX6_timeOf_19 : decode cX6_timeOf 19 = .ok (.iload_n 3, 1) := by decide +kernel
theorem dX6_timeOf_20 : decode cX6_timeOf 20 = .ok (.iload_n 3, 1) := by decide +kernel
theorem dX6_timeOf_21 : decode cX6_timeOf 21 = .ok (.imul, 1) := by decide +kernel
theorem dX6_timeOf_22 : decode cX6_timeOf 22 = .ok (.bipush 100, 2) := by decide +kernel
theorem dX6_timeOf_24 : decode cX6_timeOf 24 = .ok (.iload_n 0, 1) := by decide +kernel
theorem dX6_timeOf_25 : decode cX6_timeOf 25 = .ok (.imul, 1) := by decide +kernel
theorem dX6_timeOf_26 : decode cX6_timeOf 26 = .ok (.if_icmp .gt 8, 3) := by decide +kernel
theorem dX6_timeOf_29 : decode cX6_timeOf 29 = .ok (.iload_n 3, 1) := by decide +kernel
theorem dX6_timeOf_30 : decode cX6_timeOf 30 = .ok (.istore_n 1, 1) := by decide +kernel
theorem dX6_timeOf_31 : decode cX6_timeOf 31 = .ok (.goto 7, 3) := by decide +kernel
theorem dX6_timeOf_34 : decode cX6_timeOf 34 = .ok (.iload_n 3, 1) := by decide +kernel
theorem dX6_timeOf_35 : decode cX6_timeOf 35 = .ok (.iconst 1, 1) := by decide +kernel
theorem dX6_timeOf_36 : decode cX6_timeOf 36 = .ok (.isub, 1) := by decide +kernel
theorem dX6_timeOf_37 : decode cX6_timeOf 37 = .ok (.istore_n 2, 1) := by decide +kernel
theorem dX6_timeOf_38 : decode cX6_timeOf 38 = .ok (.goto (-32), 3) := by decide +kernel
theorem dX6_timeOf_41 : decode cX6_timeOf 41 = .ok (.iload_n 1, 1) := by decide +kernel
theorem dX6_timeOf_42 : decode cX6_timeOf 42 = .ok (.ireturn, 1) := by decide +kernel
set_option maxRecDepth 20000 in
theorem ggX6_strengthOf_X6_times : GoodIn wsX6_strengthOf wsX6_times := goodIn_r _ [6, 7, 8, 5, 9] (by decide +kernel) (by decide +kernel)
set_option maxRecDepth 20000 in
theorem gX6_strengthOf_X6_times : GoodIn wsX6_strengthOf (va_wsS RX6 138 yX6_times wsX6_times) := goodIn_app (goodIn_of _ (by decide +kernel)) ggX6_strengthOf_X6_times
theorem dX6_strengthOf_0 : decode cX6_strengthOf 0 = .ok (.ldc 153, 2) := by decide +kernel
theorem dX6_strengthOf_2 : decode cX6_strengthOf 2 = .ok (.istore 4, 2) := by decide +kernel
theorem dX6_strengthOf_4 : decode cX6_strengthOf 4 = .ok (.iconst 0, 1) := by decide +kernel
theorem dX6_strengthOf_5 : decode cX6_strengthOf 5 = .ok (.istore 5, 2) := by decide +kernel
theorem dX6_strengthOf_7 : decode cX6_strengthOf 7 = .ok (.iload 5, 2) := by decide +kernel
theorem dX6_strengthOf_9 : decode cX6_strengthOf 9 = .ok (.iconst 4, 1) := by decide +kernel
theorem dX6_strengthOf_10 : decode cX6_strengthOf 10 = .ok (.if_icmp .ge 47, 3) := by decide +kernel
theorem dX6_strengthOf_13 : decode cX6_strengthOf 13 = .ok (.iload 5, 2) := by decide +kernel
theorem dX6_strengthOf_15 : decode cX6_strengthOf 15 = .ok (.iload_n 1, 1) := by decide +kernel
theorem dX6_strengthOf_16 : decode cX6_strengthOf 16 = .ok (.iload_n 2, 1) := by decide +kernel
theorem dX6_strengthOf_17 : decode cX6_strengthOf 17 = .ok (.invokestatic 138, 3) := by decide +kernel
theorem dX6_strengthOf_20 : decode cX6_strengthOf 20 = .ok (.istore 6, 2) := by decide +kernel
theorem dX6_strengthOf_22 : decode cX6_strengthOf 22 = .ok (.iload 6, 2) := by decide +kernel
theorem dX6_strengthOf_24 : decode cX6_strengthOf 24 = .ok (.ifCond .le 27, 3) := by decide +kernel
theorem dX6_strengthOf_27 : decode cX6_strengthOf 27 = .ok (.iload 4, 2) := by decide +kernel
theorem dX6_strengthOf_29 : decode cX6_strengthOf 29 = .ok (.bipush 10, 2) := by decide +kernel
theorem dX6_strengthOf_31 : decode cX6_strengthOf 31 = .ok (.aload_n 0, 1) := by decide +kernel
theorem dX6_strengthOf_32 : decode cX6_strengthOf 32 = .ok (.getfield 47, 3) := by decide +kernel
theorem dX6_strengthOf_35 : decode cX6_strengthOf 35 = .ok (.iload 5, 2) := by decide +kernel
theorem dX6_strengthOf_37 : decode cX6_strengthOf 37 = .ok (.iaload, 1) := by decide +kernel
theorem dX6_strengthOf_38 : decode cX6_strengthOf 38 = .ok (.isub, 1) := by decide +kernel
theorem dX6_strengthOf_39 : decode cX6_strengthOf 39 = .ok (.imul, 1) := by decide +kernel
theorem dX6_strengthOf_40 : decode cX6_strengthOf 40 = .ok (.bipush 10, 2) := by decide +kernel
theorem dX6_strengthOf_42 : decode cX6_strengthOf 42 = .ok (.idiv, 1) := by decide +kernel
theorem dX6_strengthOf_43 : decode cX6_strengthOf 43 = .ok (.istore 4, 2) := by decide +kernel
theorem dX6_strengthOf_45 : decode cX6_strengthOf 45 = .ok (.iinc 6 (-1), 3) := by decide +kernel
theorem dX6_strengthOf_48 : decode cX6_strengthOf 48 = .ok (.goto (-26), 3) := by decide +kernel
theorem dX6_strengthOf_51 : decode cX6_strengthOf 51 = .ok (.iinc 5 1, 3) := by decide +kernel
theorem dX6_strengthOf_54 : decode cX6_strengthOf 54 = .ok (.goto (-47), 3) := by decide +kernel
theorem dX6_strengthOf_57 : decode cX6_strengthOf 57 = .ok (.iload 4, 2) := by decide +kernel
theorem dX6_strengthOf_59 : decode cX6_strengthOf 59 = .ok (.iload_n 3, 1) := by decide +kernel
theorem dX6_strengthOf_60 : decode cX6_strengthOf 60 = .ok (.iconst 1, 1) := by decide +kernel
theorem dX6_strengthOf_61 : decode cX6_strengthOf 61 = .ok (.iadd, 1) := by decide +kernel
theorem dX6_strengthOf_62 : decode cX6_strengthOf 62 = .ok (.idiv, 1) := by decide +kernel
theorem dX6_strengthOf_63 : decode cX6_strengthOf 63 = .ok (.ireturn, 1) := by decide +kernel
theorem dX6_swallowsNow_0 : decode cX6_swallowsNow 0 = .ok (.iconst 0, 1) := by decide +kernel
theorem dX6_swallowsNow_1 : decode cX6_swallowsNow 1 = .ok (.istore_n 1, 1) := by decide +kernel
theorem dX6_swallowsNow_2 : decode cX6_swallowsNow 2 = .ok (.iload_n 1, 1) := by decide +kernel
theorem dX6_swallowsNow_3 : decode cX6_swallowsNow 3 = .ok (.iconst 4, 1) := by decide +kernel
theorem dX6_swallowsNow_4 : decode cX6_swallowsNow 4 = .ok (.if_icmp .ge 23, 3) := by decide +kernel
theorem dX6_swallowsNow_7 : decode cX6_swallowsNow 7 = .ok (.aload_n 0, 1) := by decide +kernel
theorem dX6_swallowsNow_8 : decode cX6_swallowsNow 8 = .ok (.getfield 47, 3) := by decide +kernel
theorem dX6_swallowsNow_11 : decode cX6_swallowsNow 11 = .ok (.iload_n 1, 1) := by decide +kernel
theorem dX6_swallowsNow_12 : decode cX6_swallowsNow 12 = .ok (.aload_n 0, 1) := by decide +kernel
theorem dX6_swallowsNow_13 : decode cX6_swallowsNow 13 = .ok (.getfield 7, 3) := by decide +kernel
theorem dX6_swallowsNow_16 : decode cX6_swallowsNow 16 = .ok (.iconst 4, 1) := by decide +kernel
theorem dX6_swallowsNow_17 : decode cX6_swallowsNow 17 = .ok (.iload_n 1, 1) := by decide +kernel
theorem dX6_swallowsNow_18 : decode cX6_swallowsNow 18 = .ok (.iadd, 1) := by decide +kernel
theorem dX6_swallowsNow_19 : decode cX6_swallowsNow 19 = .ok (.iaload, 1) := by decide +kernel
theorem dX6_swallowsNow_20 : decode cX6_swallowsNow 20 = .ok (.iastore, 1) := by decide +kernel
theorem dX6_swallowsNow_21 : decode cX6_swallowsNow 21 = .ok (.iinc 1 1, 3) := by decide +kernel
theorem dX6_swallowsNow_24 : decode cX6_swallowsNow 24 = .ok (.goto (-22), 3) := by decide +kernel
theorem dX6_swallowsNow_27 : decode cX6_swallowsNow 27 = .ok (.return_, 1) := by decide +kernel
set_option maxRecDepth 20000 in
theorem ggX6_meets_X6_mirrored : GoodIn wsX6_meets wsX6_mirrored := goodIn_r _ [5] (by decide +kernel) (by decide +kernel)
set_option maxRecDepth 20000 in
theorem gX6_meets_X6_mirrored : GoodIn wsX6_meets (va_wsS RX6 146 yX6_mirrored wsX6_mirrored) := goodIn_app (goodIn_of _ (by decide +kernel)) ggX6_meets_X6_mirrored
set_option maxRecDepth 20000 in
theorem ggX6_meets_X6_size : GoodIn wsX6_meets wsX6_size := goodIn_r _ [8] (by decide +kernel) (by decide +kernel)
set_option maxRecDepth 20000 in
theorem gX6_meets_X6_size : GoodIn wsX6_meets (va_wsS RX6 79 yX6_size wsX6_size) := goodIn_app (goodIn_of _ (by decide +kernel)) ggX6_meets_X6_size
theorem dX6_meets_0 : decode cX6_meets 0 = .ok (.iload_n 3, 1) := by decide +kernel
theorem dX6_meets_1 : decode cX6_meets 1 = .ok (.aload_n 0, 1) := by decide +kernel
theorem dX6_meets_2 : decode cX6_meets 2 = .ok (.getfield 7, 3) := by decide +kernel
theorem dX6_meets_5 : decode cX6_meets 5 = .ok (.iconst 0, 1) := by decide +kernel
theorem dX6_meets_6 : decode cX6_meets 6 = .ok (.iaload, 1) := by decide +kernel
theorem dX6_meets_7 : decode cX6_meets 7 = .ok (.aload_n 0, 1) := by decide +kernel
theorem dX6_meets_8 : decode cX6_meets 8 = .ok (.getfield 7, 3) := by decide +kernel
theorem dX6_meets_11 : decode cX6_meets 11 = .ok (.iconst 2, 1) := by decide +kernel
theorem dX6_meets_12 : decode cX6_meets 12 = .ok (.iaload, 1) := by decide +kernel
theorem dX6_meets_13 : decode cX6_meets 13 = .ok (.invokestatic 146, 3) := by decide +kernel
theorem dX6_meets_16 : decode cX6_meets 16 = .ok (.istore 7, 2) := by decide +kernel
theorem dX6_meets_18 : decode cX6_meets 18 = .ok (.iload 4, 2) := by decide +kernel
theorem dX6_meets_20 : decode cX6_meets 20 = .ok (.aload_n 0, 1) := by decide +kernel
theorem dX6_meets_21 : decode cX6_meets 21 = .ok (.getfield 7, 3) := by decide +kernel
theorem dX6_meets_24 : decode cX6_meets 24 = .ok (.iconst 1, 1) := by decide +kernel
theorem dX6_meets_25 : decode cX6_meets 25 = .ok (.iaload, 1) := by decide +kernel
theorem dX6_meets_26 : decode cX6_meets 26 = .ok (.aload_n 0, 1) := by decide +kernel
theorem dX6_meets_27 : decode cX6_meets 27 = .ok (.getfield 7, 3) := by decide +kernel
theorem dX6_meets_30 : decode cX6_meets 30 = .ok (.iconst 3, 1) := by decide +kernel
theorem dX6_meets_31 : decode cX6_meets 31 = .ok (.iaload, 1) := by decide +kernel
theorem dX6_meets_32 : decode cX6_meets 32 = .ok (.invokestatic 146, 3) := by decide +kernel
theorem dX6_meets_35 : decode cX6_meets 35 = .ok (.istore 8, 2) := by decide +kernel
theorem dX6_meets_37 : decode cX6_meets 37 = .ok (.iload_n 2, 1) := by decide +kernel
theorem dX6_meets_38 : decode cX6_meets 38 = .ok (.aload_n 0, 1) := by decide +kernel
theorem dX6_meets_39 : decode cX6_meets 39 = .ok (.getfield 7, 3) := by decide +kernel
theorem dX6_meets_42 : decode cX6_meets 42 = .ok (.iconst 0, 1) := by decide +kernel
theorem dX6_meets_43 : decode cX6_meets 43 = .ok (.iaload, 1) := by decide +kernel
theorem dX6_meets_44 : decode cX6_meets 44 = .ok (.aload_n 0, 1) := by decide +kernel
theorem dX6_meets_45 : decode cX6_meets 45 = .ok (.getfield 7, 3) := by decide +kernel
theorem dX6_meets_48 : decode cX6_meets 48 = .ok (.bipush 18, 2) := by decide +kernel
theorem dX6_meets_50 : decode cX6_meets 50 = .ok (.iload_n 1, 1) := by decide +kernel
theorem dX6_meets_51 : decode cX6_meets 51 = .ok (.iadd, 1) := by decide +kernel
theorem dX6_meets_52 : decode cX6_meets 52 = .ok (.iaload, 1) := by decide +kernel
theorem dX6_meets_53 : decode cX6_meets 53 = .ok (.invokestatic 146, 3) := by decide +kernel
theorem dX6_meets_56 : decode cX6_meets 56 = .ok (.istore 9, 2) := by decide +kernel
theorem dX6_meets_58 : decode cX6_meets 58 = .ok (.iload 7, 2) := by decide +kernel
theorem dX6_meets_60 : decode cX6_meets 60 = .ok (.iload 9, 2) := by decide +kernel
theorem dX6_meets_62 : decode cX6_meets 62 = .ok (.if_icmp .ge 10, 3) := by decide +kernel
theorem dX6_meets_65 : decode cX6_meets 65 = .ok (.iload 9, 2) := by decide +kernel
theorem dX6_meets_67 : decode cX6_meets 67 = .ok (.iload 5, 2) := by decide +kernel
theorem dX6_meets_69 : decode cX6_meets 69 = .ok (.if_icmp .lt 19, 3) := by decide +kernel
theorem dX6_meets_72 : decode cX6_meets 72 = .ok (.iload 5, 2) := by decide +kernel
theorem dX6_meets_74 : decode cX6_meets 74 = .ok (.iload 9, 2) := by decide +kernel
theorem dX6_meets_76 : decode cX6_meets 76 = .ok (.if_icmp .ge 10, 3) := by decide +kernel
theorem dX6_meets_79 : decode cX6_meets 79 = .ok (.iload 9, 2) := by decide +kernel
theorem dX6_meets_81 : decode cX6_meets 81 = .ok (.iload 7, 2) := by decide +kernel
theorem dX6_meets_83 : decode cX6_meets 83 = .ok (.if_icmp .lt 5, 3) := by decide +kernel
theorem dX6_meets_86 : decode cX6_meets 86 = .ok (.iconst 0, 1) := by decide +kernel
theorem dX6_meets_87 : decode cX6_meets 87 = .ok (.ireturn, 1) := by decide +kernel
theorem dX6_meets_88 : decode cX6_meets 88 = .ok (.iload 5, 2) := by decide +kernel
theorem dX6_meets_90 : decode cX6_meets 90 = .ok (.iload 7, 2) := by decide +kernel
theorem dX6_meets_92 : decode cX6_meets 92 = .ok (.isub, 1) := by decide +kernel
theorem dX6_meets_93 : decode cX6_meets 93 = .ok (.istore 10, 2) := by decide +kernel
theorem dX6_meets_95 : decode cX6_meets 95 = .ok (.iload 8, 2) := by decide +kernel
theorem dX6_meets_97 : decode cX6_meets 97 = .ok (.iload 10, 2) := by decide +kernel
theorem dX6_meets_99 : decode cX6_meets 99 = .ok (.imul, 1) := by decide +kernel
theorem dX6_meets_100 : decode cX6_meets 100 = .ok (.iload 6, 2) := by decide +kernel
theorem dX6_meets_102 : decode cX6_meets 102 = .ok (.iload 8, 2) := by decide +kernel
theorem dX6_meets_104 : decode cX6_meets 104 = .ok (.isub, 1) := by decide +kernel
theorem dX6_meets_105 : decode cX6_meets 105 = .ok (.iload 9, 2) := by decide +kernel
theorem dX6_meets_107 : decode cX6_meets 107 = .ok (.iload 7, 2) := by decide +kernel
theorem dX6_meets_109 : decode cX6_meets 109 = .ok (.isub, 1) := by decide +kernel
theorem dX6_meets_110 : decode cX6_meets 110 = .ok (.imul, 1) := by decide +kernel
theorem dX6_meets_111 : decode cX6_meets 111 = .ok (.iadd, 1) := by decide +kernel
theorem dX6_meets_112 : decode cX6_meets 112 = .ok (.istore 11, 2) := by decide +kernel
theorem dX6_meets_114 : decode cX6_meets 114 = .ok (.iload 10, 2) := by decide +kernel
theorem dX6_meets_116 : decode cX6_meets 116 = .ok (.ifCond .ge 9, 3) := by decide +kernel
theorem dX6_meets_119 : decode cX6_meets 119 = .ok (.iload 11, 2) := by decide +kernel
theorem dX6_meets_121 : decode cX6_meets 121 = .ok (.ineg, 1) := by decide +kernel
theorem dX6_meets_122 : decode cX6_meets 122 = .ok (.goto 5, 3) := by decide +kernel
theorem dX6_meets_125 : decode cX6_meets 125 = .ok (.iload 11, 2) := by decide +kernel
theorem dX6_meets_127 : decode cX6_meets 127 = .ok (.istore 11, 2) := by decide +kernel
theorem dX6_meets_129 : decode cX6_meets 129 = .ok (.iload 10, 2) := by decide +kernel
theorem dX6_meets_131 : decode cX6_meets 131 = .ok (.invokestatic 79, 3) := by decide +kernel
theorem dX6_meets_134 : decode cX6_meets 134 = .ok (.istore 10, 2) := by decide +kernel
theorem dX6_meets_136 : decode cX6_meets 136 = .ok (.aload_n 0, 1) := by decide +kernel
theorem dX6_meets_137 : decode cX6_meets 137 = .ok (.getfield 7, 3) := by decide +kernel
theorem dX6_meets_140 : decode cX6_meets 140 = .ok (.iconst 1, 1) := by decide +kernel
theorem dX6_meets_141 : decode cX6_meets 141 = .ok (.iaload, 1) := by decide +kernel
theorem dX6_meets_142 : decode cX6_meets 142 = .ok (.iload 10, 2) := by decide +kernel
theorem dX6_meets_144 : decode cX6_meets 144 = .ok (.imul, 1) := by decide +kernel
theorem dX6_meets_145 : decode cX6_meets 145 = .ok (.istore 12, 2) := by decide +kernel
theorem dX6_meets_147 : decode cX6_meets 147 = .ok (.iconst 0, 1) := by decide +kernel
theorem dX6_meets_148 : decode cX6_meets 148 = .ok (.istore 13, 2) := by decide +kernel
theorem dX6_meets_150 : decode cX6_meets 150 = .ok (.iload 11, 2) := by decide +kernel
theorem dX6_meets_152 : decode cX6_meets 152 = .ok (.ifCond .ge 16, 3) := by decide +kernel
theorem dX6_meets_155 : decode cX6_meets 155 = .ok (.iload 11, 2) := by decide +kernel
theorem dX6_meets_157 : decode cX6_meets 157 = .ok (.iload 12, 2) := by decide +kernel
theorem dX6_meets_159 : decode cX6_meets 159 = .ok (.iadd, 1) := by decide +kernel
theorem dX6_meets_160 : decode cX6_meets 160 = .ok (.istore 11, 2) := by decide +kernel
theorem dX6_meets_162 : decode cX6_meets 162 = .ok (.iinc 13 1, 3) := by decide +kernel
theorem dX6_meets_165 : decode cX6_meets 165 = .ok (.goto (-15), 3) := by decide +kernel
theorem dX6_meets_168 : decode cX6_meets 168 = .ok (.iload 11, 2) := by decide +kernel
theorem dX6_meets_170 : decode cX6_meets 170 = .ok (.iload 12, 2) := by decide +kernel
theorem dX6_meets_172 : decode cX6_meets 172 = .ok (.if_icmp .lt 16, 3) := by decide +kernel
theorem dX6_meets_175 : decode cX6_meets 175 = .ok (.iload 11, 2) := by decide +kernel
theorem dX6_meets_177 : decode cX6_meets 177 = .ok (.iload 12, 2) := by decide +kernel
theorem dX6_meets_179 : decode cX6_meets 179 = .ok (.isub, 1) := by decide +kernel
theorem dX6_meets_180 : decode cX6_meets 180 = .ok (.istore 11, 2) := by decide +kernel
theorem dX6_meets_182 : decode cX6_meets 182 = .ok (.iinc 13 1, 3) := by decide +kernel
theorem dX6_meets_185 : decode cX6_meets 185 = .ok (.goto (-17), 3) := by decide +kernel
theorem dX6_meets_188 : decode cX6_meets 188 = .ok (.iload 13, 2) := by decide +kernel
theorem dX6_meets_190 : decode cX6_meets 190 = .ok (.iconst 2, 1) := by decide +kernel
theorem dX6_meets_191 : decode cX6_meets 191 = .ok (.irem, 1) := by decide +kernel
theorem dX6_meets_192 : decode cX6_meets 192 = .ok (.ifCond .ne 8, 3) := by decide +kernel
theorem dX6_meets_195 : decode cX6_meets 195 = .ok (.iload 11, 2) := by decide +kernel
theorem dX6_meets_197 : decode cX6_meets 197 = .ok (.goto 8, 3) := by decide +kernel
theorem dX6_meets_200 : decode cX6_meets 200 = .ok (.iload 12, 2) := by decide +kernel
theorem dX6_meets_202 : decode cX6_meets 202 = .ok (.iload 11, 2) := by decide +kernel
theorem dX6_meets_204 : decode cX6_meets 204 = .ok (.isub, 1) := by decide +kernel
theorem dX6_meets_205 : decode cX6_meets 205 = .ok (.istore 11, 2) := by decide +kernel
theorem dX6_meets_207 : decode cX6_meets 207 = .ok (.iload 11, 2) := by decide +kernel
theorem dX6_meets_209 : decode cX6_meets 209 = .ok (.aload_n 0, 1) := by decide +kernel
theorem dX6_meets_210 : decode cX6_meets 210 = .ok (.getfield 7, 3) := by decide +kernel
theorem dX6_meets_213 : decode cX6_meets 213 = .ok (.bipush 21, 2) := by decide +kernel
theorem dX6_meets_215 : decode cX6_meets 215 = .ok (.iload_n 1, 1) := by decide +kernel
theorem dX6_meets_216 : decode cX6_meets 216 = .ok (.iadd, 1) := by decide +kernel
theorem dX6_meets_217 : decode cX6_meets 217 = .ok (.iaload, 1) := by decide +kernel
theorem dX6_meets_218 : decode cX6_meets 218 = .ok (.iload 10, 2) := by decide +kernel
theorem dX6_meets_220 : decode cX6_meets 220 = .ok (.imul, 1) := by decide +kernel
theorem dX6_meets_221 : decode cX6_meets 221 = .ok (.if_icmp .lt 24, 3) := by decide +kernel
theorem dX6_meets_224 : decode cX6_meets 224 = .ok (.iload 11, 2) := by decide +kernel
theorem dX6_meets_226 : decode cX6_meets 226 = .ok (.aload_n 0, 1) := by decide +kernel
theorem dX6_meets_227 : decode cX6_meets 227 = .ok (.getfield 7, 3) := by decide +kernel
theorem dX6_meets_230 : decode cX6_meets 230 = .ok (.bipush 24, 2) := by decide +kernel
theorem dX6_meets_232 : decode cX6_meets 232 = .ok (.iload_n 1, 1) := by decide +kernel
theorem dX6_meets_233 : decode cX6_meets 233 = .ok (.iadd, 1) := by decide +kernel
theorem dX6_meets_234 : decode cX6_meets 234 = .ok (.iaload, 1) := by decide +kernel
theorem dX6_meets_235 : decode cX6_meets 235 = .ok (.iload 10, 2) := by decide +kernel
theorem dX6_meets_237 : decode cX6_meets 237 = .ok (.imul, 1) := by decide +kernel
theorem dX6_meets_238 : decode cX6_meets 238 = .ok (.if_icmp .gt 7, 3) := by decide +kernel
theorem dX6_meets_241 : decode cX6_meets 241 = .ok (.iconst 1, 1) := by decide +kernel
theorem dX6_meets_242 : decode cX6_meets 242 = .ok (.goto 4, 3) := by decide +kernel
theorem dX6_meets_245 : decode cX6_meets 245 = .ok (.iconst 0, 1) := by decide +kernel
theorem dX6_meets_246 : decode cX6_meets 246 = .ok (.ireturn, 1) := by decide +kernel
set_option maxRecDepth 20000 in
theorem ggX6_isHidden_X6_meets : GoodIn wsX6_isHidden wsX6_meets := goodIn_r _ [6, 1, 7, 8, 5, 9, 10, 11, 12, 13, 14, 15, 16, 17, 18, 19, 20, 21, 22, 23, 24, 25, 26, 27, 28, 29, 30, 31, 32, 33, 34] (by decide +kernel) (by decide +kernel)
set_option maxRecDepth 20000 in
theorem gX6_isHidden_X6_meets : GoodIn wsX6_isHidden (wsV RX6 154 RX6 yX6_meets wsX6_meets) := goodIn_app (goodIn_of _ (by decide +kernel)) ggX6_isHidden_X6_meets
theorem dX6_isHidden_0 : decode cX6_isHidden 0 = .ok (.iconst 0, 1) := by decide +kernel
theorem dX6_isHidden_1 : decode cX6_isHidden 1 = .ok (.istore 5, 2) := by decide +kernel
theorem dX6_isHidden_3 : decode cX6_isHidden 3 = .ok (.iconst 0, 1) := by decide +kernel
theorem dX6_isHidden_4 : decode cX6_isHidden 4 = .ok (.istore 6, 2) := by decide +kernel
theorem dX6_isHidden_6 : decode cX6_isHidden 6 = .ok (.iload 6, 2) := by decide +kernel
theorem dX6_isHidden_8 : decode cX6_isHidden 8 = .ok (.aload_n 0, 1) := by decide +kernel
theorem dX6_isHidden_9 : decode cX6_isHidden 9 = .ok (.getfield 7, 3) := by decide +kernel
theorem dX6_isHidden_12 : decode cX6_isHidden 12 = .ok (.bipush 17, 2) := by decide +kernel
theorem dX6_isHidden_14 : decode cX6_isHidden 14 = .ok (.iaload, 1) := by decide +kernel
theorem dX6_isHidden_15 : decode cX6_isHidden 15 = .ok (.if_icmp .ge 53, 3) := by decide +kernel
theorem dX6_isHidden_18 : decode cX6_isHidden 18 = .ok (.bipush (-5), 2) := by decide +kernel
theorem dX6_isHidden_20 : decode cX6_isHidden 20 = .ok (.istore 7, 2) := by decide +kernel
theorem dX6_isHidden_22 : decode cX6_isHidden 22 = .ok (.iload 7, 2) := by decide +kernel
theorem dX6_isHidden_24 : decode cX6_isHidden 24 = .ok (.iconst 5, 1) := by decide +kernel
theorem dX6_isHidden_25 : decode cX6_isHidden 25 = .ok (.if_icmp .gt 37, 3) := by decide +kernel
theorem dX6_isHidden_28 : decode cX6_isHidden 28 = .ok (.iload 5, 2) := by decide +kernel
theorem dX6_isHidden_30 : decode cX6_isHidden 30 = .ok (.ifCond .ne 19, 3) := by decide +kernel
theorem dX6_isHidden_33 : decode cX6_isHidden 33 = .ok (.aload_n 0, 1) := by decide +kernel
theorem dX6_isHidden_34 : decode cX6_isHidden 34 = .ok (.iload 6, 2) := by decide +kernel
theorem dX6_isHidden_36 : decode cX6_isHidden 36 = .ok (.iload 7, 2) := by decide +kernel
theorem dX6_isHidden_38 : decode cX6_isHidden 38 = .ok (.iload_n 1, 1) := by decide +kernel
theorem dX6_isHidden_39 : decode cX6_isHidden 39 = .ok (.iload_n 2, 1) := by decide +kernel
theorem dX6_isHidden_40 : decode cX6_isHidden 40 = .ok (.iload_n 3, 1) := by decide +kernel
theorem dX6_isHidden_41 : decode cX6_isHidden 41 = .ok (.iload 4, 2) := by decide +kernel
theorem dX6_isHidden_43 : decode cX6_isHidden 43 = .ok (.invokevirtual 154, 3) := by decide +kernel
theorem dX6_isHidden_46 : decode cX6_isHidden 46 = .ok (.ifCond .eq 7, 3) := by decide +kernel
theorem dX6_isHidden_49 : decode cX6_isHidden 49 = .ok (.iconst 1, 1) := by decide +kernel
theorem dX6_isHidden_50 : decode cX6_isHidden 50 = .ok (.goto 4, 3) := by decide +kernel
theorem dX6_isHidden_53 : decode cX6_isHidden 53 = .ok (.iconst 0, 1) := by decide +kernel
theorem dX6_isHidden_54 : decode cX6_isHidden 54 = .ok (.istore 5, 2) := by decide +kernel
theorem dX6_isHidden_56 : decode cX6_isHidden 56 = .ok (.iinc 7 1, 3) := by decide +kernel
theorem dX6_isHidden_59 : decode cX6_isHidden 59 = .ok (.goto (-37), 3) := by decide +kernel
theorem dX6_isHidden_62 : decode cX6_isHidden 62 = .ok (.iinc 6 1, 3) := by decide +kernel
theorem dX6_isHidden_65 : decode cX6_isHidden 65 = .ok (.goto (-59), 3) := by decide +kernel
theorem dX6_isHidden_68 : decode cX6_isHidden 68 = .ok (.iload 5, 2) := by decide +kernel
theorem dX6_isHidden_70 : decode cX6_isHidden 70 = .ok (.ireturn, 1) := by decide +kernel
set_option maxRecDepth 20000 in
theorem ggX6_path_X6_isSeat : GoodIn wsX6_path wsX6_isSeat := goodIn_r _ [6, 1, 7, 8, 5, 9, 47, 48, 49, 50, 51, 52, 53, 54, 55, 56, 57, 58, 59, 60, 61, 62, 63, 64, 65, 66, 67, 68] (by decide +kernel) (by decide +kernel)
set_option maxRecDepth 20000 in
theorem gX6_path_X6_isSeat : GoodIn wsX6_path (wsV RX6 122 RX6 yX6_isSeat wsX6_isSeat) := goodIn_app (goodIn_of _ (by decide +kernel)) ggX6_path_X6_isSeat
set_option maxRecDepth 20000 in
theorem ggX6_path_X6_isImage : GoodIn wsX6_path wsX6_isImage := goodIn_r _ [12, 7, 8, 5, 9, 13, 14, 15] (by decide +kernel) (by decide +kernel)
set_option maxRecDepth 20000 in
theorem gX6_path_X6_isImage : GoodIn wsX6_path (va_wsS RX6 142 yX6_isImage wsX6_isImage) := goodIn_app (goodIn_of _ (by decide +kernel)) ggX6_path_X6_isImage
set_option maxRecDepth 20000 in
theorem ggX6_path_X6_in : GoodIn wsX6_path wsX6_in := goodIn_r _ [9] (by decide +kernel) (by decide +kernel)
set_option maxRecDepth 20000 in
theorem gX6_path_X6_in : GoodIn wsX6_path (va_wsS RX6 75 yX6_in wsX6_in) := goodIn_app (goodIn_of _ (by decide +kernel)) ggX6_path_X6_in
set_option maxRecDepth 20000 in
theorem ggX6_path_X6_wayOf : GoodIn wsX6_path wsX6_wayOf := goodIn_r _ [19, 1, 20, 21, 5, 22, 47, 48, 49, 50, 51, 52, 53, 54, 55, 56, 57, 58, 59, 60, 61, 62, 63, 64, 65, 66, 67, 68] (by decide +kernel) (by decide +kernel)
set_option maxRecDepth 20000 in
theorem gX6_path_X6_wayOf : GoodIn wsX6_path (wsV RX6 158 RX6 yX6_wayOf wsX6_wayOf) := goodIn_app (goodIn_of _ (by decide +kernel)) ggX6_path_X6_wayOf
set_option maxRecDepth 20000 in
theorem ggX6_path_X6_swallowsNow : GoodIn wsX6_path wsX6_swallowsNow := goodIn_r _ [26, 27, 1, 47, 48, 49, 50, 51, 52, 53, 54, 55, 56, 57, 58, 59, 60, 61, 62, 63, 64, 65, 66, 67, 68] (by decide +kernel) (by decide +kernel)
set_option maxRecDepth 20000 in
theorem gX6_path_X6_swallowsNow : GoodIn wsX6_path (wsV RX6 162 RX6 yX6_swallowsNow wsX6_swallowsNow) := goodIn_app (goodIn_of _ (by decide +kernel)) ggX6_path_X6_swallowsNow
set_option maxRecDepth 20000 in
theorem ggX6_path_X6_timeOf : GoodIn wsX6_path wsX6_timeOf := goodIn_r _ [30] (by decide +kernel) (by decide +kernel)
set_option maxRecDepth 20000 in
theorem gX6_path_X6_timeOf : GoodIn wsX6_path (va_wsS RX6 165 yX6_timeOf wsX6_timeOf) := goodIn_app (goodIn_of _ (by decide +kernel)) ggX6_path_X6_timeOf
set_option maxRecDepth 20000 in
theorem ggX6_path_X6_strengthOf : GoodIn wsX6_path wsX6_strengthOf := goodIn_r _ [34, 35, 27, 36, 37, 5, 38, 13, 14, 15, 47, 48, 49, 50, 51, 52, 53, 54, 55, 56, 57, 58, 59, 60, 61, 62, 63, 64, 65, 66, 67, 68] (by decide +kernel) (by decide +kernel)
set_option maxRecDepth 20000 in
theorem gX6_path_X6_strengthOf : GoodIn wsX6_path (wsV RX6 168 RX6 yX6_strengthOf wsX6_strengthOf) := goodIn_app (goodIn_of _ (by decide +kernel)) ggX6_path_X6_strengthOf
set_option maxRecDepth 20000 in
theorem ggX6_path_X6_isHidden : GoodIn wsX6_path wsX6_isHidden := goodIn_r _ [42, 1, 43, 44, 45, 5, 46, 20, 21, 22, 13, 14, 15, 47, 48, 49, 50, 51, 52, 53, 54, 55, 56, 57, 58, 59, 60, 61, 62, 63, 64, 65, 66, 67, 68] (by decide +kernel) (by decide +kernel)
set_option maxRecDepth 20000 in
theorem gX6_path_X6_isHidden : GoodIn wsX6_path (wsV RX6 171 RX6 yX6_isHidden wsX6_isHidden) := goodIn_app (goodIn_of _ (by decide +kernel)) ggX6_path_X6_isHidden
theorem dX6_path_0 : decode cX6_path 0 = .ok (.aload_n 0, 1) := by decide +kernel
theorem dX6_path_1 : decode cX6_path 1 = .ok (.iload_n 1, 1) := by decide +kernel
theorem dX6_path_2 : decode cX6_path 2 = .ok (.invokevirtual 122, 3) := by decide +kernel
theorem dX6_path_5 : decode cX6_path 5 = .ok (.ifCond .eq 21, 3) := by decide +kernel
theorem dX6_path_8 : decode cX6_path 8 = .ok (.iload_n 2, 1) := by decide +kernel
theorem dX6_path_9 : decode cX6_path 9 = .ok (.iload_n 3, 1) := by decide +kernel
theorem dX6_path_10 : decode cX6_path 10 = .ok (.invokestatic 142, 3) := by decide +kernel
theorem dX6_path_13 : decode cX6_path 13 = .ok (.ifCond .eq 13, 3) := by decide +kernel
theorem dX6_path_16 : decode cX6_path 16 = .ok (.iload 4, 2) := by decide +kernel
theorem dX6_path_18 : decode cX6_path 18 = .ok (.iconst 0, 1) := by decide +kernel
theorem dX6_path_19 : decode cX6_path 19 = .ok (.iconst 3, 1) := by decide +kernel
theorem dX6_path_20 : decode cX6_path 20 = .ok (.invokestatic 75, 3) := by decide +kernel
theorem dX6_path_23 : decode cX6_path 23 = .ok (.ifCond .ne 5, 3) := by decide +kernel
theorem dX6_path_26 : decode cX6_path 26 = .ok (.iconst (-1), 1) := by decide +kernel
theorem dX6_path_27 : decode cX6_path 27 = .ok (.ireturn, 1) := by decide +kernel
theorem dX6_path_28 : decode cX6_path 28 = .ok (.aload_n 0, 1) := by decide +kernel
theorem dX6_path_29 : decode cX6_path 29 = .ok (.getfield 7, 3) := by decide +kernel
theorem dX6_path_32 : decode cX6_path 32 = .ok (.bipush 9, 2) := by decide +kernel
theorem dX6_path_34 : decode cX6_path 34 = .ok (.iload_n 1, 1) := by decide +kernel
theorem dX6_path_35 : decode cX6_path 35 = .ok (.iadd, 1) := by decide +kernel
theorem dX6_path_36 : decode cX6_path 36 = .ok (.iaload, 1) := by decide +kernel
theorem dX6_path_37 : decode cX6_path 37 = .ok (.istore 5, 2) := by decide +kernel
theorem dX6_path_39 : decode cX6_path 39 = .ok (.aload_n 0, 1) := by decide +kernel
theorem dX6_path_40 : decode cX6_path 40 = .ok (.getfield 7, 3) := by decide +kernel
theorem dX6_path_43 : decode cX6_path 43 = .ok (.bipush 13, 2) := by decide +kernel
theorem dX6_path_45 : decode cX6_path 45 = .ok (.iload_n 1, 1) := by decide +kernel
theorem dX6_path_46 : decode cX6_path 46 = .ok (.iadd, 1) := by decide +kernel
theorem dX6_path_47 : decode cX6_path 47 = .ok (.iaload, 1) := by decide +kernel
theorem dX6_path_48 : decode cX6_path 48 = .ok (.istore 6, 2) := by decide +kernel
theorem dX6_path_50 : decode cX6_path 50 = .ok (.aload_n 0, 1) := by decide +kernel
theorem dX6_path_51 : decode cX6_path 51 = .ok (.iload_n 2, 1) := by decide +kernel
theorem dX6_path_52 : decode cX6_path 52 = .ok (.iload_n 3, 1) := by decide +kernel
theorem dX6_path_53 : decode cX6_path 53 = .ok (.iload 5, 2) := by decide +kernel
theorem dX6_path_55 : decode cX6_path 55 = .ok (.iload 6, 2) := by decide +kernel
theorem dX6_path_57 : decode cX6_path 57 = .ok (.invokevirtual 158, 3) := by decide +kernel
theorem dX6_path_60 : decode cX6_path 60 = .ok (.istore 7, 2) := by decide +kernel
theorem dX6_path_62 : decode cX6_path 62 = .ok (.aload_n 0, 1) := by decide +kernel
theorem dX6_path_63 : decode cX6_path 63 = .ok (.invokevirtual 162, 3) := by decide +kernel
theorem dX6_path_66 : decode cX6_path 66 = .ok (.iload 4, 2) := by decide +kernel
theorem dX6_path_68 : decode cX6_path 68 = .ok (.ifCond .ne 8, 3) := by decide +kernel
theorem dX6_path_71 : decode cX6_path 71 = .ok (.iload 7, 2) := by decide +kernel
theorem dX6_path_73 : decode cX6_path 73 = .ok (.goto 52, 3) := by decide +kernel
theorem dX6_path_76 : decode cX6_path 76 = .ok (.iload 4, 2) := by decide +kernel
theorem dX6_path_78 : decode cX6_path 78 = .ok (.iconst 1, 1) := by decide +kernel
theorem dX6_path_79 : decode cX6_path 79 = .ok (.if_icmp .ne 11, 3) := by decide +kernel
theorem dX6_path_82 : decode cX6_path 82 = .ok (.iload 7, 2) := by decide +kernel
theorem dX6_path_84 : decode cX6_path 84 = .ok (.invokestatic 165, 3) := by decide +kernel
theorem dX6_path_87 : decode cX6_path 87 = .ok (.goto 38, 3) := by decide +kernel
theorem dX6_path_90 : decode cX6_path 90 = .ok (.iload 4, 2) := by decide +kernel
theorem dX6_path_92 : decode cX6_path 92 = .ok (.iconst 2, 1) := by decide +kernel
theorem dX6_path_93 : decode cX6_path 93 = .ok (.if_icmp .ne 14, 3) := by decide +kernel
theorem dX6_path_96 : decode cX6_path 96 = .ok (.aload_n 0, 1) := by decide +kernel
theorem dX6_path_97 : decode cX6_path 97 = .ok (.iload_n 2, 1) := by decide +kernel
theorem dX6_path_98 : decode cX6_path 98 = .ok (.iload_n 3, 1) := by decide +kernel
theorem dX6_path_99 : decode cX6_path 99 = .ok (.iload 7, 2) := by decide +kernel
theorem dX6_path_101 : decode cX6_path 101 = .ok (.invokevirtual 168, 3) := by decide +kernel
theorem dX6_path_104 : decode cX6_path 104 = .ok (.goto 21, 3) := by decide +kernel
theorem dX6_path_107 : decode cX6_path 107 = .ok (.aload_n 0, 1) := by decide +kernel
theorem dX6_path_108 : decode cX6_path 108 = .ok (.iload_n 2, 1) := by decide +kernel
theorem dX6_path_109 : decode cX6_path 109 = .ok (.iload_n 3, 1) := by decide +kernel
theorem dX6_path_110 : decode cX6_path 110 = .ok (.iload 5, 2) := by decide +kernel
theorem dX6_path_112 : decode cX6_path 112 = .ok (.iload 6, 2) := by decide +kernel
theorem dX6_path_114 : decode cX6_path 114 = .ok (.invokevirtual 171, 3) := by decide +kernel
theorem dX6_path_117 : decode cX6_path 117 = .ok (.ifCond .eq 7, 3) := by decide +kernel
theorem dX6_path_120 : decode cX6_path 120 = .ok (.iconst 1, 1) := by decide +kernel
theorem dX6_path_121 : decode cX6_path 121 = .ok (.goto 4, 3) := by decide +kernel
theorem dX6_path_124 : decode cX6_path 124 = .ok (.iconst 0, 1) := by decide +kernel
theorem dX6_path_125 : decode cX6_path 125 = .ok (.ireturn, 1) := by decide +kernel
set_option maxRecDepth 20000 in
theorem ggX6_hears_X6_isImage : GoodIn wsX6_hears wsX6_isImage := goodIn_r _ [9, 10, 11, 8, 12, 13, 14, 15] (by decide +kernel) (by decide +kernel)
set_option maxRecDepth 20000 in
theorem gX6_hears_X6_isImage : GoodIn wsX6_hears (va_wsS RX6 142 yX6_isImage wsX6_isImage) := goodIn_app (goodIn_of _ (by decide +kernel)) ggX6_hears_X6_isImage
set_option maxRecDepth 20000 in
theorem ggX6_hears_X6_isHidden : GoodIn wsX6_hears wsX6_isHidden := goodIn_r _ [19, 1, 20, 21, 22, 8, 23, 24, 25, 26, 13, 14, 15, 43, 44, 45, 46, 47, 48, 49, 50, 51, 52, 53, 54, 55, 56, 57, 58, 59, 60, 61, 62, 63, 64] (by decide +kernel) (by decide +kernel)
set_option maxRecDepth 20000 in
theorem gX6_hears_X6_isHidden : GoodIn wsX6_hears (wsV RX6 171 RX6 yX6_isHidden wsX6_isHidden) := goodIn_app (goodIn_of _ (by decide +kernel)) ggX6_hears_X6_isHidden
set_option maxRecDepth 20000 in
theorem ggX6_hears_X6_wayOf : GoodIn wsX6_hears wsX6_wayOf := goodIn_r _ [30, 1, 24, 25, 8, 26, 43, 44, 45, 46, 47, 48, 49, 50, 51, 52, 53, 54, 55, 56, 57, 58, 59, 60, 61, 62, 63, 64] (by decide +kernel) (by decide +kernel)
set_option maxRecDepth 20000 in
theorem gX6_hears_X6_wayOf : GoodIn wsX6_hears (wsV RX6 158 RX6 yX6_wayOf wsX6_wayOf) := goodIn_app (goodIn_of _ (by decide +kernel)) ggX6_hears_X6_wayOf
set_option maxRecDepth 20000 in
theorem ggX6_hears_X6_timeOf : GoodIn wsX6_hears wsX6_timeOf := goodIn_r _ [33] (by decide +kernel) (by decide +kernel)
set_option maxRecDepth 20000 in
theorem gX6_hears_X6_timeOf : GoodIn wsX6_hears (va_wsS RX6 165 yX6_timeOf wsX6_timeOf) := goodIn_app (goodIn_of _ (by decide +kernel)) ggX6_hears_X6_timeOf
set_option maxRecDepth 20000 in
theorem ggX6_hears_X6_strengthOf : GoodIn wsX6_hears wsX6_strengthOf := goodIn_r _ [37, 38, 39, 40, 41, 8, 42, 13, 14, 15, 43, 44, 45, 46, 47, 48, 49, 50, 51, 52, 53, 54, 55, 56, 57, 58, 59, 60, 61, 62, 63, 64] (by decide +kernel) (by decide +kernel)
set_option maxRecDepth 20000 in
theorem gX6_hears_X6_strengthOf : GoodIn wsX6_hears (wsV RX6 168 RX6 yX6_strengthOf wsX6_strengthOf) := goodIn_app (goodIn_of _ (by decide +kernel)) ggX6_hears_X6_strengthOf
theorem dX6_hears_0 : decode cX6_hears 0 = .ok (.aload_n 0, 1) := by decide +kernel
theorem dX6_hears_1 : decode cX6_hears 1 = .ok (.getfield 7, 3) := by decide +kernel
theorem dX6_hears_4 : decode cX6_hears 4 = .ok (.bipush 9, 2) := by decide +kernel
theorem dX6_hears_6 : decode cX6_hears 6 = .ok (.iload_n 1, 1) := by decide +kernel
theorem dX6_hears_7 : decode cX6_hears 7 = .ok (.iadd, 1) := by decide +kernel
theorem dX6_hears_8 : decode cX6_hears 8 = .ok (.iaload, 1) := by decide +kernel
theorem dX6_hears_9 : decode cX6_hears 9 = .ok (.istore_n 2, 1) := by decide +kernel
theorem dX6_hears_10 : decode cX6_hears 10 = .ok (.aload_n 0, 1) := by decide +kernel
theorem dX6_hears_11 : decode cX6_hears 11 = .ok (.getfield 7, 3) := by decide +kernel
theorem dX6_hears_14 : decode cX6_hears 14 = .ok (.bipush 13, 2) := by decide +kernel
theorem dX6_hears_16 : decode cX6_hears 16 = .ok (.iload_n 1, 1) := by decide +kernel
theorem dX6_hears_17 : decode cX6_hears 17 = .ok (.iadd, 1) := by decide +kernel
theorem dX6_hears_18 : decode cX6_hears 18 = .ok (.iaload, 1) := by decide +kernel
theorem dX6_hears_19 : decode cX6_hears 19 = .ok (.istore_n 3, 1) := by decide +kernel
theorem dX6_hears_20 : decode cX6_hears 20 = .ok (.aload_n 0, 1) := by decide +kernel
theorem dX6_hears_21 : decode cX6_hears 21 = .ok (.iconst 0, 1) := by decide +kernel
theorem dX6_hears_22 : decode cX6_hears 22 = .ok (.putfield 175, 3) := by decide +kernel
theorem dX6_hears_25 : decode cX6_hears 25 = .ok (.bipush (-3), 2) := by decide +kernel
theorem dX6_hears_27 : decode cX6_hears 27 = .ok (.istore 4, 2) := by decide +kernel
theorem dX6_hears_29 : decode cX6_hears 29 = .ok (.iload 4, 2) := by decide +kernel
theorem dX6_hears_31 : decode cX6_hears 31 = .ok (.iconst 3, 1) := by decide +kernel
theorem dX6_hears_32 : decode cX6_hears 32 = .ok (.if_icmp .gt 124, 3) := by decide +kernel
theorem dX6_hears_35 : decode cX6_hears 35 = .ok (.bipush (-3), 2) := by decide +kernel
theorem dX6_hears_37 : decode cX6_hears 37 = .ok (.istore 5, 2) := by decide +kernel
theorem dX6_hears_39 : decode cX6_hears 39 = .ok (.iload 5, 2) := by decide +kernel
theorem dX6_hears_41 : decode cX6_hears 41 = .ok (.iconst 3, 1) := by decide +kernel
theorem dX6_hears_42 : decode cX6_hears 42 = .ok (.if_icmp .gt 108, 3) := by decide +kernel
theorem dX6_hears_45 : decode cX6_hears 45 = .ok (.iload 4, 2) := by decide +kernel
theorem dX6_hears_47 : decode cX6_hears 47 = .ok (.iload 5, 2) := by decide +kernel
theorem dX6_hears_49 : decode cX6_hears 49 = .ok (.invokestatic 142, 3) := by decide +kernel
theorem dX6_hears_52 : decode cX6_hears 52 = .ok (.ifCond .eq 92, 3) := by decide +kernel
theorem dX6_hears_55 : decode cX6_hears 55 = .ok (.aload_n 0, 1) := by decide +kernel
theorem dX6_hears_56 : decode cX6_hears 56 = .ok (.iload 4, 2) := by decide +kernel
theorem dX6_hears_58 : decode cX6_hears 58 = .ok (.iload 5, 2) := by decide +kernel
theorem dX6_hears_60 : decode cX6_hears 60 = .ok (.iload_n 2, 1) := by decide +kernel
theorem dX6_hears_61 : decode cX6_hears 61 = .ok (.iload_n 3, 1) := by decide +kernel
theorem dX6_hears_62 : decode cX6_hears 62 = .ok (.invokevirtual 171, 3) := by decide +kernel
theorem dX6_hears_65 : decode cX6_hears 65 = .ok (.ifCond .ne 79, 3) := by decide +kernel
theorem dX6_hears_68 : decode cX6_hears 68 = .ok (.aload_n 0, 1) := by decide +kernel
theorem dX6_hears_69 : decode cX6_hears 69 = .ok (.iload 4, 2) := by decide +kernel
theorem dX6_hears_71 : decode cX6_hears 71 = .ok (.iload 5, 2) := by decide +kernel
theorem dX6_hears_73 : decode cX6_hears 73 = .ok (.iload_n 2, 1) := by decide +kernel
theorem dX6_hears_74 : decode cX6_hears 74 = .ok (.iload_n 3, 1) := by decide +kernel
theorem dX6_hears_75 : decode cX6_hears 75 = .ok (.invokevirtual 158, 3) := by decide +kernel
theorem dX6_hears_78 : decode cX6_hears 78 = .ok (.istore 6, 2) := by decide +kernel
theorem dX6_hears_80 : decode cX6_hears 80 = .ok (.aload_n 0, 1) := by decide +kernel
theorem dX6_hears_81 : decode cX6_hears 81 = .ok (.getfield 50, 3) := by decide +kernel
theorem dX6_hears_84 : decode cX6_hears 84 = .ok (.aload_n 0, 1) := by decide +kernel
theorem dX6_hears_85 : decode cX6_hears 85 = .ok (.getfield 175, 3) := by decide +kernel
theorem dX6_hears_88 : decode cX6_hears 88 = .ok (.iload 6, 2) := by decide +kernel
theorem dX6_hears_90 : decode cX6_hears 90 = .ok (.invokestatic 165, 3) := by decide +kernel
theorem dX6_hears_93 : decode cX6_hears 93 = .ok (.iastore, 1) := by decide +kernel
theorem dX6_hears_94 : decode cX6_hears 94 = .ok (.aload_n 0, 1) := by decide +kernel
theorem dX6_hears_95 : decode cX6_hears 95 = .ok (.getfield 53, 3) := by decide +kernel
theorem dX6_hears_98 : decode cX6_hears 98 = .ok (.aload_n 0, 1) := by decide +kernel
theorem dX6_hears_99 : decode cX6_hears 99 = .ok (.getfield 175, 3) := by decide +kernel
theorem dX6_hears_102 : decode cX6_hears 102 = .ok (.aload_n 0, 1) := by decide +kernel
theorem dX6_hears_103 : decode cX6_hears 103 = .ok (.iload 4, 2) := by decide +kernel
theorem dX6_hears_105 : decode cX6_hears 105 = .ok (.iload 5, 2) := by decide +kernel
theorem dX6_hears_107 : decode cX6_hears 107 = .ok (.iload 6, 2) := by decide +kernel
theorem dX6_hears_109 : decode cX6_hears 109 = .ok (.invokevirtual 168, 3) := by decide +kernel
theorem dX6_hears_112 : decode cX6_hears 112 = .ok (.iastore, 1) := by decide +kernel
theorem dX6_hears_113 : decode cX6_hears 113 = .ok (.aload_n 0, 1) := by decide +kernel
theorem dX6_hears_114 : decode cX6_hears 114 = .ok (.getfield 56, 3) := by decide +kernel
theorem dX6_hears_117 : decode cX6_hears 117 = .ok (.aload_n 0, 1) := by decide +kernel
theorem dX6_hears_118 : decode cX6_hears 118 = .ok (.getfield 175, 3) := by decide +kernel
theorem dX6_hears_121 : decode cX6_hears 121 = .ok (.bipush 100, 2) := by decide +kernel
theorem dX6_hears_123 : decode cX6_hears 123 = .ok (.iload 4, 2) := by decide +kernel
theorem dX6_hears_125 : decode cX6_hears 125 = .ok (.iconst 3, 1) := by decide +kernel
theorem dX6_hears_126 : decode cX6_hears 126 = .ok (.iadd, 1) := by decide +kernel
theorem dX6_hears_127 : decode cX6_hears 127 = .ok (.imul, 1) := by decide +kernel
theorem dX6_hears_128 : decode cX6_hears 128 = .ok (.iload 5, 2) := by decide +kernel
theorem dX6_hears_130 : decode cX6_hears 130 = .ok (.iadd, 1) := by decide +kernel
theorem dX6_hears_131 : decode cX6_hears 131 = .ok (.iconst 3, 1) := by decide +kernel
theorem dX6_hears_132 : decode cX6_hears 132 = .ok (.iadd, 1) := by decide +kernel
theorem dX6_hears_133 : decode cX6_hears 133 = .ok (.iastore, 1) := by decide +kernel
theorem dX6_hears_134 : decode cX6_hears 134 = .ok (.aload_n 0, 1) := by decide +kernel
theorem dX6_hears_135 : decode cX6_hears 135 = .ok (.dup, 1) := by decide +kernel
theorem dX6_hears_136 : decode cX6_hears 136 = .ok (.getfield 175, 3) := by decide +kernel
theorem dX6_hears_139 : decode cX6_hears 139 = .ok (.iconst 1, 1) := by decide +kernel
theorem dX6_hears_140 : decode cX6_hears 140 = .ok (.iadd, 1) := by decide +kernel
theorem dX6_hears_141 : decode cX6_hears 141 = .ok (.putfield 175, 3) := by decide +kernel
theorem dX6_hears_144 : decode cX6_hears 144 = .ok (.iinc 5 1, 3) := by decide +kernel
theorem dX6_hears_147 : decode cX6_hears 147 = .ok (.goto (-108), 3) := by decide +kernel
theorem dX6_hears_150 : decode cX6_hears 150 = .ok (.iinc 4 1, 3) := by decide +kernel
theorem dX6_hears_153 : decode cX6_hears 153 = .ok (.goto (-124), 3) := by decide +kernel
theorem dX6_hears_156 : decode cX6_hears 156 = .ok (.return_, 1) := by decide +kernel
set_option maxRecDepth 20000 in
theorem ggX6_hearsNow_X6_swallowsNow : GoodIn wsX6_hearsNow wsX6_swallowsNow := goodIn_r _ [5, 6, 7, 51, 52, 53, 54, 55, 56, 57, 58, 59, 60, 61, 62, 63, 64, 65, 66, 67, 68, 69, 70, 71, 72] (by decide +kernel) (by decide +kernel)
set_option maxRecDepth 20000 in
theorem gX6_hearsNow_X6_swallowsNow : GoodIn wsX6_hearsNow (wsV RX6 162 RX6 yX6_swallowsNow wsX6_swallowsNow) := goodIn_app (goodIn_of _ (by decide +kernel)) ggX6_hearsNow_X6_swallowsNow
set_option maxRecDepth 20000 in
theorem ggX6_hearsNow_X6_hears : GoodIn wsX6_hearsNow wsX6_hears := goodIn_r _ [11, 7, 12, 13, 14, 15, 16, 17, 4, 18, 19, 20, 21, 22, 23, 24, 25, 26, 27, 28, 29, 30, 31, 32, 33, 34, 35, 36, 37, 38, 39, 40, 41, 42, 43, 44, 45, 46, 47, 6, 48, 49, 50, 51, 52, 53, 54, 55, 56, 57, 58, 59, 60, 61, 62, 63, 64, 65, 66, 67, 68, 69, 70, 71, 72] (by decide +kernel) (by decide +kernel)
set_option maxRecDepth 20000 in
theorem gX6_hearsNow_X6_hears : GoodIn wsX6_hearsNow (wsV RX6 178 RX6 yX6_hears wsX6_hears) := goodIn_app (goodIn_of _ (by decide +kernel)) ggX6_hearsNow_X6_hears
theorem dX6_hearsNow_0 : decode cX6_hearsNow 0 = .ok (.aload_n 0, 1) := by decide +kernel
theorem dX6_hearsNow_1 : decode cX6_hearsNow 1 = .ok (.invokevirtual 162, 3) := by decide +kernel
theorem dX6_hearsNow_4 : decode cX6_hearsNow 4 = .ok (.aload_n 0, 1) := by decide +kernel
theorem dX6_hearsNow_5 : decode cX6_hearsNow 5 = .ok (.iload_n 1, 1) := by decide +kernel
theorem dX6_hearsNow_6 : decode cX6_hearsNow 6 = .ok (.invokevirtual 178, 3) := by decide +kernel
