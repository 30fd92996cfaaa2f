theorem dX0_insert_63 : decode cX0_insert 63 = .ok (.getfield 15, 3) := by decide +kernel
theorem dX0_insert_66 : decode cX0_insert 66 = .ok (.iload 6, 2) := by decide +kernel
theorem dX0_insert_68 : decode cX0_insert 68 = .ok (.iload_n 3, 1) := by decide +kernel
theorem dX0_insert_69 : decode cX0_insert 69 = .ok (.iastore, 1) := by decide +kernel
theorem dX0_insert_70 : decode cX0_insert 70 = .ok (.aload_n 0, 1) := by decide +kernel
theorem dX0_insert_71 : decode cX0_insert 71 = .ok (.getfield 18, 3) := by decide +kernel
theorem dX0_insert_74 : decode cX0_insert 74 = .ok (.iload 6, 2) := by decide +kernel
theorem dX0_insert_76 : decode cX0_insert 76 = .ok (.iload 4, 2) := by decide +kernel
theorem dX0_insert_78 : decode cX0_insert 78 = .ok (.iastore, 1) := by decide +kernel
theorem dX0_insert_79 : decode cX0_insert 79 = .ok (.aload_n 0, 1) := by decide +kernel
theorem dX0_insert_80 : decode cX0_insert 80 = .ok (.getfield 21, 3) := by decide +kernel
theorem dX0_insert_83 : decode cX0_insert 83 = .ok (.iload 6, 2) := by decide +kernel
theorem dX0_insert_85 : decode cX0_insert 85 = .ok (.iload 5, 2) := by decide +kernel
theorem dX0_insert_87 : decode cX0_insert 87 = .ok (.iastore, 1) := by decide +kernel
theorem dX0_insert_88 : decode cX0_insert 88 = .ok (.aload_n 0, 1) := by decide +kernel
theorem dX0_insert_89 : decode cX0_insert 89 = .ok (.getfield 24, 3) := by decide +kernel
theorem dX0_insert_92 : decode cX0_insert 92 = .ok (.iload 6, 2) := by decide +kernel
theorem dX0_insert_94 : decode cX0_insert 94 = .ok (.aload_n 1, 1) := by decide +kernel
theorem dX0_insert_95 : decode cX0_insert 95 = .ok (.getfield 74, 3) := by decide +kernel
theorem dX0_insert_98 : decode cX0_insert 98 = .ok (.iload_n 2, 1) := by decide +kernel
theorem dX0_insert_99 : decode cX0_insert 99 = .ok (.iload_n 3, 1) := by decide +kernel
theorem dX0_insert_100 : decode cX0_insert 100 = .ok (.iload 4, 2) := by decide +kernel
theorem dX0_insert_102 : decode cX0_insert 102 = .ok (.invokestatic 77, 3) := by decide +kernel
theorem dX0_insert_105 : decode cX0_insert 105 = .ok (.iastore, 1) := by decide +kernel
theorem dX0_insert_106 : decode cX0_insert 106 = .ok (.aload_n 0, 1) := by decide +kernel
theorem dX0_insert_107 : decode cX0_insert 107 = .ok (.dup, 1) := by decide +kernel
theorem dX0_insert_108 : decode cX0_insert 108 = .ok (.getfield 34, 3) := by decide +kernel
theorem dX0_insert_111 : decode cX0_insert 111 = .ok (.aload_n 0, 1) := by decide +kernel
theorem dX0_insert_112 : decode cX0_insert 112 = .ok (.getfield 24, 3) := by decide +kernel
theorem dX0_insert_115 : decode cX0_insert 115 = .ok (.iload 6, 2) := by decide +kernel
theorem dX0_insert_117 : decode cX0_insert 117 = .ok (.iaload, 1) := by decide +kernel
theorem dX0_insert_118 : decode cX0_insert 118 = .ok (.iadd, 1) := by decide +kernel
theorem dX0_insert_119 : decode cX0_insert 119 = .ok (.putfield 34, 3) := by decide +kernel
theorem dX0_insert_122 : decode cX0_insert 122 = .ok (.aload_n 0, 1) := by decide +kernel
theorem dX0_insert_123 : decode cX0_insert 123 = .ok (.dup, 1) := by decide +kernel
theorem dX0_insert_124 : decode cX0_insert 124 = .ok (.getfield 30, 3) := by decide +kernel
theorem dX0_insert_127 : decode cX0_insert 127 = .ok (.iconst 1, 1) := by decide +kernel
theorem dX0_insert_128 : decode cX0_insert 128 = .ok (.iadd, 1) := by decide +kernel
theorem dX0_insert_129 : decode cX0_insert 129 = .ok (.putfield 30, 3) := by decide +kernel
theorem dX0_insert_132 : decode cX0_insert 132 = .ok (.return_, 1) := by decide +kernel
theorem dX0_shiftUp_0 : decode cX0_shiftUp 0 = .ok (.aload_n 0, 1) := by decide +kernel
theorem dX0_shiftUp_1 : decode cX0_shiftUp 1 = .ok (.getfield 9, 3) := by decide +kernel
theorem dX0_shiftUp_4 : decode cX0_shiftUp 4 = .ok (.iload_n 1, 1) := by decide +kernel
theorem dX0_shiftUp_5 : decode cX0_shiftUp 5 = .ok (.aload_n 0, 1) := by decide +kernel
theorem dX0_shiftUp_6 : decode cX0_shiftUp 6 = .ok (.getfield 9, 3) := by decide +kernel
theorem dX0_shiftUp_9 : decode cX0_shiftUp 9 = .ok (.iload_n 1, 1) := by decide +kernel
theorem dX0_shiftUp_10 : decode cX0_shiftUp 10 = .ok (.iconst 1, 1) := by decide +kernel
theorem dX0_shiftUp_11 : decode cX0_shiftUp 11 = .ok (.isub, 1) := by decide +kernel
theorem dX0_shiftUp_12 : decode cX0_shiftUp 12 = .ok (.iaload, 1) := by decide +kernel
theorem dX0_shiftUp_13 : decode cX0_shiftUp 13 = .ok (.iastore, 1) := by decide +kernel
theorem dX0_shiftUp_14 : decode cX0_shiftUp 14 = .ok (.aload_n 0, 1) := by decide +kernel
theorem dX0_shiftUp_15 : decode cX0_shiftUp 15 = .ok (.getfield 15, 3) := by decide +kernel
theorem dX0_shiftUp_18 : decode cX0_shiftUp 18 = .ok (.iload_n 1, 1) := by decide +kernel
theorem dX0_shiftUp_19 : decode cX0_shiftUp 19 = .ok (.aload_n 0, 1) := by decide +kernel
theorem dX0_shiftUp_20 : decode cX0_shiftUp 20 = .ok (.getfield 15, 3) := by decide +kernel
theorem dX0_shiftUp_23 : decode cX0_shiftUp 23 = .ok (.iload_n 1, 1) := by decide +kernel
theorem dX0_shiftUp_24 : decode cX0_shiftUp 24 = .ok (.iconst 1, 1) := by decide +kernel
theorem dX0_shiftUp_25 : decode cX0_shiftUp 25 = .ok (.isub, 1) := by decide +kernel
theorem dX0_shiftUp_26 : decode cX0_shiftUp 26 = .ok (.iaload, 1) := by decide +kernel
theorem dX0_shiftUp_27 : decode cX0_shiftUp 27 = .ok (.iastore, 1) := by decide +kernel
theorem dX0_shiftUp_28 : decode cX0_shiftUp 28 = .ok (.aload_n 0, 1) := by decide +kernel
theorem dX0_shiftUp_29 : decode cX0_shiftUp 29 = .ok (.getfield 18, 3) := by decide +kernel
theorem dX0_shiftUp_32 : decode cX0_shiftUp 32 = .ok (.iload_n 1, 1) := by decide +kernel
theorem dX0_shiftUp_33 : decode cX0_shiftUp 33 = .ok (.aload_n 0, 1) := by decide +kernel
theorem dX0_shiftUp_34 : decode cX0_shiftUp 34 = .ok (.getfield 18, 3) := by decide +kernel
theorem dX0_shiftUp_37 : decode cX0_shiftUp 37 = .ok (.iload_n 1, 1) := by decide +kernel
theorem dX0_shiftUp_38 : decode cX0_shiftUp 38 = .ok (.iconst 1, 1) := by decide +kernel
theorem dX0_shiftUp_39 : decode cX0_shiftUp 39 = .ok (.isub, 1) := by decide +kernel
theorem dX0_shiftUp_40 : decode cX0_shiftUp 40 = .ok (.iaload, 1) := by decide +kernel
theorem dX0_shiftUp_41 : decode cX0_shiftUp 41 = .ok (.iastore, 1) := by decide +kernel
theorem dX0_shiftUp_42 : decode cX0_shiftUp 42 = .ok (.aload_n 0, 1) := by decide +kernel
theorem dX0_shiftUp_43 : decode cX0_shiftUp 43 = .ok (.getfield 21, 3) := by decide +kernel
theorem dX0_shiftUp_46 : decode cX0_shiftUp 46 = .ok (.iload_n 1, 1) := by decide +kernel
theorem dX0_shiftUp_47 : decode cX0_shiftUp 47 = .ok (.aload_n 0, 1) := by decide +kernel
theorem dX0_shiftUp_48 : decode cX0_shiftUp 48 = .ok (.getfield 21, 3) := by decide +kernel
theorem dX0_shiftUp_51 : decode cX0_shiftUp 51 = .ok (.iload_n 1, 1) := by decide +kernel
theorem dX0_shiftUp_52 : decode cX0_shiftUp 52 = .ok (.iconst 1, 1) := by decide +kernel
theorem dX0_shiftUp_53 : decode cX0_shiftUp 53 = .ok (.isub, 1) := by decide +kernel
theorem dX0_shiftUp_54 : decode cX0_shiftUp 54 = .ok (.iaload, 1) := by decide +kernel
theorem dX0_shiftUp_55 : decode cX0_shiftUp 55 = .ok (.iastore, 1) := by decide +kernel
theorem dX0_shiftUp_56 : decode cX0_shiftUp 56 = .ok (.aload_n 0, 1) := by decide +kernel
theorem dX0_shiftUp_57 : decode cX0_shiftUp 57 = .ok (.getfield 24, 3) := by decide +kernel
theorem dX0_shiftUp_60 : decode cX0_shiftUp 60 = .ok (.iload_n 1, 1) := by decide +kernel
theorem dX0_shiftUp_61 : decode cX0_shiftUp 61 = .ok (.aload_n 0, 1) := by decide +kernel
theorem dX0_shiftUp_62 : decode cX0_shiftUp 62 = .ok (.getfield 24, 3) := by decide +kernel
theorem dX0_shiftUp_65 : decode cX0_shiftUp 65 = .ok (.iload_n 1, 1) := by decide +kernel
theorem dX0_shiftUp_66 : decode cX0_shiftUp 66 = .ok (.iconst 1, 1) := by decide +kernel
theorem dX0_shiftUp_67 : decode cX0_shiftUp 67 = .ok (.isub, 1) := by decide +kernel
theorem dX0_shiftUp_68 : decode cX0_shiftUp 68 = .ok (.iaload, 1) := by decide +kernel
theorem dX0_shiftUp_69 : decode cX0_shiftUp 69 = .ok (.iastore, 1) := by decide +kernel
theorem dX0_shiftUp_70 : decode cX0_shiftUp 70 = .ok (.return_, 1) := by decide +kernel
theorem dX0_firstGap_0 : decode cX0_firstGap 0 = .ok (.aload_n 0, 1) := by decide +kernel
theorem dX0_firstGap_1 : decode cX0_firstGap 1 = .ok (.getfield 30, 3) := by decide +kernel
theorem dX0_firstGap_4 : decode cX0_firstGap 4 = .ok (.iconst 1, 1) := by decide +kernel
theorem dX0_firstGap_5 : decode cX0_firstGap 5 = .ok (.if_icmp .le 19, 3) := by decide +kernel
theorem dX0_firstGap_8 : decode cX0_firstGap 8 = .ok (.aload_n 0, 1) := by decide +kernel
theorem dX0_firstGap_9 : decode cX0_firstGap 9 = .ok (.getfield 21, 3) := by decide +kernel
theorem dX0_firstGap_12 : decode cX0_firstGap 12 = .ok (.iconst 1, 1) := by decide +kernel
theorem dX0_firstGap_13 : decode cX0_firstGap 13 = .ok (.iaload, 1) := by decide +kernel
theorem dX0_firstGap_14 : decode cX0_firstGap 14 = .ok (.aload_n 0, 1) := by decide +kernel
theorem dX0_firstGap_15 : decode cX0_firstGap 15 = .ok (.getfield 21, 3) := by decide +kernel
theorem dX0_firstGap_18 : decode cX0_firstGap 18 = .ok (.iconst 0, 1) := by decide +kernel
theorem dX0_firstGap_19 : decode cX0_firstGap 19 = .ok (.iaload, 1) := by decide +kernel
theorem dX0_firstGap_20 : decode cX0_firstGap 20 = .ok (.isub, 1) := by decide +kernel
theorem dX0_firstGap_21 : decode cX0_firstGap 21 = .ok (.goto 5, 3) := by decide +kernel
theorem dX0_firstGap_24 : decode cX0_firstGap 24 = .ok (.bipush (-9), 2) := by decide +kernel
theorem dX0_firstGap_26 : decode cX0_firstGap 26 = .ok (.ireturn, 1) := by decide +kernel
theorem dX0_strengthUpTo_0 : decode cX0_strengthUpTo 0 = .ok (.iconst 0, 1) := by decide +kernel
theorem dX0_strengthUpTo_1 : decode cX0_strengthUpTo 1 = .ok (.istore_n 2, 1) := by decide +kernel
theorem dX0_strengthUpTo_2 : decode cX0_strengthUpTo 2 = .ok (.iconst 0, 1) := by decide +kernel
theorem dX0_strengthUpTo_3 : decode cX0_strengthUpTo 3 = .ok (.istore_n 3, 1) := by decide +kernel
theorem dX0_strengthUpTo_4 : decode cX0_strengthUpTo 4 = .ok (.iload_n 3, 1) := by decide +kernel
theorem dX0_strengthUpTo_5 : decode cX0_strengthUpTo 5 = .ok (.aload_n 0, 1) := by decide +kernel
theorem dX0_strengthUpTo_6 : decode cX0_strengthUpTo 6 = .ok (.getfield 30, 3) := by decide +kernel
theorem dX0_strengthUpTo_9 : decode cX0_strengthUpTo 9 = .ok (.if_icmp .ge 28, 3) := by decide +kernel
theorem dX0_strengthUpTo_12 : decode cX0_strengthUpTo 12 = .ok (.aload_n 0, 1) := by decide +kernel
theorem dX0_strengthUpTo_13 : decode cX0_strengthUpTo 13 = .ok (.getfield 21, 3) := by decide +kernel
theorem dX0_strengthUpTo_16 : decode cX0_strengthUpTo 16 = .ok (.iload_n 3, 1) := by decide +kernel
theorem dX0_strengthUpTo_17 : decode cX0_strengthUpTo 17 = .ok (.iaload, 1) := by decide +kernel
theorem dX0_strengthUpTo_18 : decode cX0_strengthUpTo 18 = .ok (.iload_n 1, 1) := by decide +kernel
theorem dX0_strengthUpTo_19 : decode cX0_strengthUpTo 19 = .ok (.if_icmp .gt 18, 3) := by decide +kernel
theorem dX0_strengthUpTo_22 : decode cX0_strengthUpTo 22 = .ok (.iload_n 2, 1) := by decide +kernel
theorem dX0_strengthUpTo_23 : decode cX0_strengthUpTo 23 = .ok (.aload_n 0, 1) := by decide +kernel
theorem dX0_strengthUpTo_24 : decode cX0_strengthUpTo 24 = .ok (.getfield 24, 3) := by decide +kernel
theorem dX0_strengthUpTo_27 : decode cX0_strengthUpTo 27 = .ok (.iload_n 3, 1) := by decide +kernel
theorem dX0_strengthUpTo_28 : decode cX0_strengthUpTo 28 = .ok (.iaload, 1) := by decide +kernel
theorem dX0_strengthUpTo_29 : decode cX0_strengthUpTo 29 = .ok (.iadd, 1) := by decide +kernel
theorem dX0_strengthUpTo_30 : decode cX0_strengthUpTo 30 = .ok (.istore_n 2, 1) := by decide +kernel
theorem dX0_strengthUpTo_31 : decode cX0_strengthUpTo 31 = .ok (.iinc 3 1, 3) := by decide +kernel
theorem dX0_strengthUpTo_34 : decode cX0_strengthUpTo 34 = .ok (.goto (-30), 3) := by decide +kernel
theorem dX0_strengthUpTo_37 : decode cX0_strengthUpTo 37 = .ok (.iload_n 2, 1) := by decide +kernel
theorem dX0_strengthUpTo_38 : decode cX0_strengthUpTo 38 = .ok (.ireturn, 1) := by decide +kernel
theorem dX0_fadeTime_0 : decode cX0_fadeTime 0 = .ok (.aload_n 0, 1) := by decide +kernel
theorem dX0_fadeTime_1 : decode cX0_fadeTime 1 = .ok (.getfield 34, 3) := by decide +kernel
theorem dX0_fadeTime_4 : decode cX0_fadeTime 4 = .ok (.istore_n 2, 1) := by decide +kernel
theorem dX0_fadeTime_5 : decode cX0_fadeTime 5 = .ok (.iconst 0, 1) := by decide +kernel
theorem dX0_fadeTime_6 : decode cX0_fadeTime 6 = .ok (.istore_n 3, 1) := by decide +kernel
theorem dX0_fadeTime_7 : decode cX0_fadeTime 7 = .ok (.iload_n 3, 1) := by decide +kernel
theorem dX0_fadeTime_8 : decode cX0_fadeTime 8 = .ok (.aload_n 0, 1) := by decide +kernel
theorem dX0_fadeTime_9 : decode cX0_fadeTime 9 = .ok (.getfield 30, 3) := by decide +kernel
theorem dX0_fadeTime_12 : decode cX0_fadeTime 12 = .ok (.if_icmp .ge 38, 3) := by decide +kernel
theorem dX0_fadeTime_15 : decode cX0_fadeTime 15 = .ok (.iload_n 2, 1) := by decide +kernel
theorem dX0_fadeTime_16 : decode cX0_fadeTime 16 = .ok (.aload_n 0, 1) := by decide +kernel
theorem dX0_fadeTime_17 : decode cX0_fadeTime 17 = .ok (.getfield 24, 3) := by decide +kernel
theorem dX0_fadeTime_20 : decode cX0_fadeTime 20 = .ok (.iload_n 3, 1) := by decide +kernel
theorem dX0_fadeTime_21 : decode cX0_fadeTime 21 = .ok (.iaload, 1) := by decide +kernel
theorem dX0_fadeTime_22 : decode cX0_fadeTime 22 = .ok (.isub, 1) := by decide +kernel
theorem dX0_fadeTime_23 : decode cX0_fadeTime 23 = .ok (.istore_n 2, 1) := by decide +kernel
theorem dX0_fadeTime_24 : decode cX0_fadeTime 24 = .ok (.bipush 10, 2) := by decide +kernel
theorem dX0_fadeTime_26 : decode cX0_fadeTime 26 = .ok (.iload_n 2, 1) := by decide +kernel
theorem dX0_fadeTime_27 : decode cX0_fadeTime 27 = .ok (.imul, 1) := by decide +kernel
theorem dX0_fadeTime_28 : decode cX0_fadeTime 28 = .ok (.iload_n 1, 1) := by decide +kernel
theorem dX0_fadeTime_29 : decode cX0_fadeTime 29 = .ok (.aload_n 0, 1) := by decide +kernel
theorem dX0_fadeTime_30 : decode cX0_fadeTime 30 = .ok (.getfield 34, 3) := by decide +kernel
theorem dX0_fadeTime_33 : decode cX0_fadeTime 33 = .ok (.imul, 1) := by decide +kernel
theorem dX0_fadeTime_34 : decode cX0_fadeTime 34 = .ok (.if_icmp .gt 10, 3) := by decide +kernel
theorem dX0_fadeTime_37 : decode cX0_fadeTime 37 = .ok (.aload_n 0, 1) := by decide +kernel
theorem dX0_fadeTime_38 : decode cX0_fadeTime 38 = .ok (.getfield 21, 3) := by decide +kernel
theorem dX0_fadeTime_41 : decode cX0_fadeTime 41 = .ok (.iload_n 3, 1) := by decide +kernel
theorem dX0_fadeTime_42 : decode cX0_fadeTime 42 = .ok (.iaload, 1) := by decide +kernel
theorem dX0_fadeTime_43 : decode cX0_fadeTime 43 = .ok (.ireturn, 1) := by decide +kernel
theorem dX0_fadeTime_44 : decode cX0_fadeTime 44 = .ok (.iinc 3 1, 3) := by decide +kernel
theorem dX0_fadeTime_47 : decode cX0_fadeTime 47 = .ok (.goto (-40), 3) := by decide +kernel
theorem dX0_fadeTime_50 : decode cX0_fadeTime 50 = .ok (.bipush (-9), 2) := by decide +kernel
theorem dX0_fadeTime_52 : decode cX0_fadeTime 52 = .ok (.ireturn, 1) := by decide +kernel
set_option maxRecDepth 20000 in
theorem ggX0_soundIfDeaf_X5_strengthOf : GoodIn wsX0_soundIfDeaf wsX5_strengthOf := goodIn_r _ [8, 9, 10, 11, 12, 13, 14, 15, 7, 16, 17, 18, 19] (by decide +kernel) (by decide +kernel)
set_option maxRecDepth 20000 in
theorem gX0_soundIfDeaf_X5_strengthOf_n77 : GoodIn wsX0_soundIfDeaf (wsX5_strengthOf) := ggX0_soundIfDeaf_X5_strengthOf
theorem dX0_soundIfDeaf_0 : decode cX0_soundIfDeaf 0 = .ok (.iconst 0, 1) := by decide +kernel
theorem dX0_soundIfDeaf_1 : decode cX0_soundIfDeaf 1 = .ok (.istore_n 3, 1) := by decide +kernel
theorem dX0_soundIfDeaf_2 : decode cX0_soundIfDeaf 2 = .ok (.iload_n 3, 1) := by decide +kernel
theorem dX0_soundIfDeaf_3 : decode cX0_soundIfDeaf 3 = .ok (.iconst 3, 1) := by decide +kernel
theorem dX0_soundIfDeaf_4 : decode cX0_soundIfDeaf 4 = .ok (.if_icmp .gt 32, 3) := by decide +kernel
theorem dX0_soundIfDeaf_7 : decode cX0_soundIfDeaf 7 = .ok (.aload_n 0, 1) := by decide +kernel
theorem dX0_soundIfDeaf_8 : decode cX0_soundIfDeaf 8 = .ok (.getfield 27, 3) := by decide +kernel
theorem dX0_soundIfDeaf_11 : decode cX0_soundIfDeaf 11 = .ok (.iload_n 3, 1) := by decide +kernel
theorem dX0_soundIfDeaf_12 : decode cX0_soundIfDeaf 12 = .ok (.iload_n 2, 1) := by decide +kernel
theorem dX0_soundIfDeaf_13 : decode cX0_soundIfDeaf 13 = .ok (.iload_n 3, 1) := by decide +kernel
theorem dX0_soundIfDeaf_14 : decode cX0_soundIfDeaf 14 = .ok (.ishr, 1) := by decide +kernel
theorem dX0_soundIfDeaf_15 : decode cX0_soundIfDeaf 15 = .ok (.iconst 1, 1) := by decide +kernel
theorem dX0_soundIfDeaf_16 : decode cX0_soundIfDeaf 16 = .ok (.iand, 1) := by decide +kernel
theorem dX0_soundIfDeaf_17 : decode cX0_soundIfDeaf 17 = .ok (.iconst 1, 1) := by decide +kernel
theorem dX0_soundIfDeaf_18 : decode cX0_soundIfDeaf 18 = .ok (.if_icmp .ne 8, 3) := by decide +kernel
theorem dX0_soundIfDeaf_21 : decode cX0_soundIfDeaf 21 = .ok (.bipush 10, 2) := by decide +kernel
theorem dX0_soundIfDeaf_23 : decode cX0_soundIfDeaf 23 = .ok (.goto 6, 3) := by decide +kernel
theorem dX0_soundIfDeaf_26 : decode cX0_soundIfDeaf 26 = .ok (.aload_n 1, 1) := by decide +kernel
theorem dX0_soundIfDeaf_27 : decode cX0_soundIfDeaf 27 = .ok (.iload_n 3, 1) := by decide +kernel
theorem dX0_soundIfDeaf_28 : decode cX0_soundIfDeaf 28 = .ok (.iaload, 1) := by decide +kernel
theorem dX0_soundIfDeaf_29 : decode cX0_soundIfDeaf 29 = .ok (.iastore, 1) := by decide +kernel
theorem dX0_soundIfDeaf_30 : decode cX0_soundIfDeaf 30 = .ok (.iinc 3 1, 3) := by decide +kernel
theorem dX0_soundIfDeaf_33 : decode cX0_soundIfDeaf 33 = .ok (.goto (-31), 3) := by decide +kernel
theorem dX0_soundIfDeaf_36 : decode cX0_soundIfDeaf 36 = .ok (.iconst 0, 1) := by decide +kernel
theorem dX0_soundIfDeaf_37 : decode cX0_soundIfDeaf 37 = .ok (.istore_n 3, 1) := by decide +kernel
theorem dX0_soundIfDeaf_38 : decode cX0_soundIfDeaf 38 = .ok (.iconst 0, 1) := by decide +kernel
theorem dX0_soundIfDeaf_39 : decode cX0_soundIfDeaf 39 = .ok (.istore 4, 2) := by decide +kernel
theorem dX0_soundIfDeaf_41 : decode cX0_soundIfDeaf 41 = .ok (.iload 4, 2) := by decide +kernel
theorem dX0_soundIfDeaf_43 : decode cX0_soundIfDeaf 43 = .ok (.aload_n 0, 1) := by decide +kernel
theorem dX0_soundIfDeaf_44 : decode cX0_soundIfDeaf 44 = .ok (.getfield 30, 3) := by decide +kernel
theorem dX0_soundIfDeaf_47 : decode cX0_soundIfDeaf 47 = .ok (.if_icmp .ge 40, 3) := by decide +kernel
theorem dX0_soundIfDeaf_50 : decode cX0_soundIfDeaf 50 = .ok (.iload_n 3, 1) := by decide +kernel
theorem dX0_soundIfDeaf_51 : decode cX0_soundIfDeaf 51 = .ok (.aload_n 0, 1) := by decide +kernel
theorem dX0_soundIfDeaf_52 : decode cX0_soundIfDeaf 52 = .ok (.getfield 27, 3) := by decide +kernel
theorem dX0_soundIfDeaf_55 : decode cX0_soundIfDeaf 55 = .ok (.aload_n 0, 1) := by decide +kernel
theorem dX0_soundIfDeaf_56 : decode cX0_soundIfDeaf 56 = .ok (.getfield 9, 3) := by decide +kernel
theorem dX0_soundIfDeaf_59 : decode cX0_soundIfDeaf 59 = .ok (.iload 4, 2) := by decide +kernel
theorem dX0_soundIfDeaf_61 : decode cX0_soundIfDeaf 61 = .ok (.iaload, 1) := by decide +kernel
theorem dX0_soundIfDeaf_62 : decode cX0_soundIfDeaf 62 = .ok (.aload_n 0, 1) := by decide +kernel
theorem dX0_soundIfDeaf_63 : decode cX0_soundIfDeaf 63 = .ok (.getfield 15, 3) := by decide +kernel
theorem dX0_soundIfDeaf_66 : decode cX0_soundIfDeaf 66 = .ok (.iload 4, 2) := by decide +kernel
theorem dX0_soundIfDeaf_68 : decode cX0_soundIfDeaf 68 = .ok (.iaload, 1) := by decide +kernel
theorem dX0_soundIfDeaf_69 : decode cX0_soundIfDeaf 69 = .ok (.aload_n 0, 1) := by decide +kernel
theorem dX0_soundIfDeaf_70 : decode cX0_soundIfDeaf 70 = .ok (.getfield 18, 3) := by decide +kernel
theorem dX0_soundIfDeaf_73 : decode cX0_soundIfDeaf 73 = .ok (.iload 4, 2) := by decide +kernel
theorem dX0_soundIfDeaf_75 : decode cX0_soundIfDeaf 75 = .ok (.iaload, 1) := by decide +kernel
theorem dX0_soundIfDeaf_76 : decode cX0_soundIfDeaf 76 = .ok (.invokestatic 77, 3) := by decide +kernel
theorem dX0_soundIfDeaf_79 : decode cX0_soundIfDeaf 79 = .ok (.iadd, 1) := by decide +kernel
theorem dX0_soundIfDeaf_80 : decode cX0_soundIfDeaf 80 = .ok (.istore_n 3, 1) := by decide +kernel
theorem dX0_soundIfDeaf_81 : decode cX0_soundIfDeaf 81 = .ok (.iinc 4 1, 3) := by decide +kernel
theorem dX0_soundIfDeaf_84 : decode cX0_soundIfDeaf 84 = .ok (.goto (-43), 3) := by decide +kernel
theorem dX0_soundIfDeaf_87 : decode cX0_soundIfDeaf 87 = .ok (.iload_n 3, 1) := by decide +kernel
theorem dX0_soundIfDeaf_88 : decode cX0_soundIfDeaf 88 = .ok (.ireturn, 1) := by decide +kernel
theorem dX1_init_0 : decode cX1_init 0 = .ok (.aload_n 0, 1) := by decide +kernel
theorem dX1_init_1 : decode cX1_init 1 = .ok (.invokespecial 3, 3) := by decide +kernel
theorem dX1_init_4 : decode cX1_init 4 = .ok (.aload_n 0, 1) := by decide +kernel
theorem dX1_init_5 : decode cX1_init 5 = .ok (.iconst 4, 1) := by decide +kernel
theorem dX1_init_6 : decode cX1_init 6 = .ok (.newarray .int, 2) := by decide +kernel
theorem dX1_init_8 : decode cX1_init 8 = .ok (.putfield 9, 3) := by decide +kernel
theorem dX1_init_11 : decode cX1_init 11 = .ok (.aload_n 0, 1) := by decide +kernel
theorem dX1_init_12 : decode cX1_init 12 = .ok (.iconst 4, 1) := by decide +kernel
theorem dX1_init_13 : decode cX1_init 13 = .ok (.newarray .int, 2) := by decide +kernel
theorem dX1_init_15 : decode cX1_init 15 = .ok (.putfield 15, 3) := by decide +kernel
theorem dX1_init_18 : decode cX1_init 18 = .ok (.aload_n 0, 1) := by decide +kernel
theorem dX1_init_19 : decode cX1_init 19 = .ok (.iconst 4, 1) := by decide +kernel
theorem dX1_init_20 : decode cX1_init 20 = .ok (.newarray .int, 2) := by decide +kernel
theorem dX1_init_22 : decode cX1_init 22 = .ok (.putfield 18, 3) := by decide +kernel
theorem dX1_init_25 : decode cX1_init 25 = .ok (.aload_n 0, 1) := by decide +kernel
theorem dX1_init_26 : decode cX1_init 26 = .ok (.sipush 441, 3) := by decide +kernel
theorem dX1_init_29 : decode cX1_init 29 = .ok (.newarray .int, 2) := by decide +kernel
theorem dX1_init_31 : decode cX1_init 31 = .ok (.putfield 21, 3) := by decide +kernel
theorem dX1_init_34 : decode cX1_init 34 = .ok (.aload_n 0, 1) := by decide +kernel
theorem dX1_init_35 : decode cX1_init 35 = .ok (.sipush 441, 3) := by decide +kernel
theorem dX1_init_38 : decode cX1_init 38 = .ok (.newarray .int, 2) := by decide +kernel
theorem dX1_init_40 : decode cX1_init 40 = .ok (.putfield 24, 3) := by decide +kernel
theorem dX1_init_43 : decode cX1_init 43 = .ok (.aload_n 0, 1) := by decide +kernel
theorem dX1_init_44 : decode cX1_init 44 = .ok (.sipush 1024, 3) := by decide +kernel
theorem dX1_init_47 : decode cX1_init 47 = .ok (.newarray .int, 2) := by decide +kernel
theorem dX1_init_49 : decode cX1_init 49 = .ok (.putfield 27, 3) := by decide +kernel
theorem dX1_init_52 : decode cX1_init 52 = .ok (.return_, 1) := by decide +kernel
theorem dX1_addSeen_0 : decode cX1_addSeen 0 = .ok (.aload_n 0, 1) := by decide +kernel
theorem dX1_addSeen_1 : decode cX1_addSeen 1 = .ok (.getfield 30, 3) := by decide +kernel
theorem dX1_addSeen_4 : decode cX1_addSeen 4 = .ok (.iconst 4, 1) := by decide +kernel
theorem dX1_addSeen_5 : decode cX1_addSeen 5 = .ok (.if_icmp .lt 5, 3) := by decide +kernel
theorem dX1_addSeen_8 : decode cX1_addSeen 8 = .ok (.iconst 0, 1) := by decide +kernel
theorem dX1_addSeen_9 : decode cX1_addSeen 9 = .ok (.ireturn, 1) := by decide +kernel
theorem dX1_addSeen_10 : decode cX1_addSeen 10 = .ok (.aload_n 0, 1) := by decide +kernel
theorem dX1_addSeen_11 : decode cX1_addSeen 11 = .ok (.getfield 9, 3) := by decide +kernel
theorem dX1_addSeen_14 : decode cX1_addSeen 14 = .ok (.aload_n 0, 1) := by decide +kernel
theorem dX1_addSeen_15 : decode cX1_addSeen 15 = .ok (.getfield 30, 3) := by decide +kernel
theorem dX1_addSeen_18 : decode cX1_addSeen 18 = .ok (.iload_n 1, 1) := by decide +kernel
theorem dX1_addSeen_19 : decode cX1_addSeen 19 = .ok (.iastore, 1) := by decide +kernel
theorem dX1_addSeen_20 : decode cX1_addSeen 20 = .ok (.aload_n 0, 1) := by decide +kernel
theorem dX1_addSeen_21 : decode cX1_addSeen 21 = .ok (.getfield 15, 3) := by decide +kernel
theorem dX1_addSeen_24 : decode cX1_addSeen 24 = .ok (.aload_n 0, 1) := by decide +kernel
theorem dX1_addSeen_25 : decode cX1_addSeen 25 = .ok (.getfield 30, 3) := by decide +kernel
theorem dX1_addSeen_28 : decode cX1_addSeen 28 = .ok (.iload_n 2, 1) := by decide +kernel
theorem dX1_addSeen_29 : decode cX1_addSeen 29 = .ok (.iastore, 1) := by decide +kernel
theorem dX1_addSeen_30 : decode cX1_addSeen 30 = .ok (.aload_n 0, 1) := by decide +kernel
theorem dX1_addSeen_31 : decode cX1_addSeen 31 = .ok (.getfield 18, 3) := by decide +kernel
theorem dX1_addSeen_34 : decode cX1_addSeen 34 = .ok (.aload_n 0, 1) := by decide +kernel
theorem dX1_addSeen_35 : decode cX1_addSeen 35 = .ok (.getfield 30, 3) := by decide +kernel
theorem dX1_addSeen_38 : decode cX1_addSeen 38 = .ok (.iload_n 3, 1) := by decide +kernel
theorem dX1_addSeen_39 : decode cX1_addSeen 39 = .ok (.iastore, 1) := by decide +kernel
theorem dX1_addSeen_40 : decode cX1_addSeen 40 = .ok (.aload_n 0, 1) := by decide +kernel
theorem dX1_addSeen_41 : decode cX1_addSeen 41 = .ok (.dup, 1) := by decide +kernel
theorem dX1_addSeen_42 : decode cX1_addSeen 42 = .ok (.getfield 30, 3) := by decide +kernel
theorem dX1_addSeen_45 : decode cX1_addSeen 45 = .ok (.iconst 1, 1) := by decide +kernel
theorem dX1_addSeen_46 : decode cX1_addSeen 46 = .ok (.iadd, 1) := by decide +kernel
theorem dX1_addSeen_47 : decode cX1_addSeen 47 = .ok (.putfield 30, 3) := by decide +kernel
theorem dX1_addSeen_50 : decode cX1_addSeen 50 = .ok (.iconst 1, 1) := by decide +kernel
theorem dX1_addSeen_51 : decode cX1_addSeen 51 = .ok (.ireturn, 1) := by decide +kernel
set_option maxRecDepth 20000 in
theorem ggX1_findPlaces_X1_isPossible : GoodIn wsX1_findPlaces wsX1_isPossible := goodIn_r _ [10, 11, 12, 13, 14, 15, 16, 17, 18, 19, 20, 21, 22, 23, 24, 25, 26, 27, 28, 29, 30, 31, 32, 33, 34, 35, 36, 37, 38, 39, 40, 41, 42, 43, 44, 45, 46, 47, 48, 49, 50, 51, 52, 53, 54, 55, 56, 57, 58] (by decide +kernel) (by decide +kernel)
set_option maxRecDepth 20000 in
theorem gX1_findPlaces_X1_isPossible : GoodIn wsX1_findPlaces (wsV RX1 45 RX1 yX1_isPossible wsX1_isPossible) := goodIn_app (goodIn_of _ (by decide +kernel)) ggX1_findPlaces_X1_isPossible
theorem dX1_findPlaces_0 : decode cX1_findPlaces 0 = .ok (.aload_n 0, 1) := by decide +kernel
theorem dX1_findPlaces_1 : decode cX1_findPlaces 1 = .ok (.iconst 0, 1) := by decide +kernel
theorem dX1_findPlaces_2 : decode cX1_findPlaces 2 = .ok (.putfield 34, 3) := by decide +kernel
theorem dX1_findPlaces_5 : decode cX1_findPlaces 5 = .ok (.iconst 0, 1) := by decide +kernel
theorem dX1_findPlaces_6 : decode cX1_findPlaces 6 = .ok (.istore_n 2, 1) := by decide +kernel
theorem dX1_findPlaces_7 : decode cX1_findPlaces 7 = .ok (.iload_n 2, 1) := by decide +kernel
theorem dX1_findPlaces_8 : decode cX1_findPlaces 8 = .ok (.aload_n 1, 1) := by decide +kernel
theorem dX1_findPlaces_9 : decode cX1_findPlaces 9 = .ok (.getfield 37, 3) := by decide +kernel
theorem dX1_findPlaces_12 : decode cX1_findPlaces 12 = .ok (.if_icmp .gt 75, 3) := by decide +kernel
theorem dX1_findPlaces_15 : decode cX1_findPlaces 15 = .ok (.iconst 0, 1) := by decide +kernel
theorem dX1_findPlaces_16 : decode cX1_findPlaces 16 = .ok (.istore_n 3, 1) := by decide +kernel
theorem dX1_findPlaces_17 : decode cX1_findPlaces 17 = .ok (.iload_n 3, 1) := by decide +kernel
theorem dX1_findPlaces_18 : decode cX1_findPlaces 18 = .ok (.aload_n 1, 1) := by decide +kernel
theorem dX1_findPlaces_19 : decode cX1_findPlaces 19 = .ok (.getfield 42, 3) := by decide +kernel
theorem dX1_findPlaces_22 : decode cX1_findPlaces 22 = .ok (.if_icmp .gt 59, 3) := by decide +kernel
theorem dX1_findPlaces_25 : decode cX1_findPlaces 25 = .ok (.aload_n 0, 1) := by decide +kernel
theorem dX1_findPlaces_26 : decode cX1_findPlaces 26 = .ok (.getfield 34, 3) := by decide +kernel
theorem dX1_findPlaces_29 : decode cX1_findPlaces 29 = .ok (.sipush 441, 3) := by decide +kernel
theorem dX1_findPlaces_32 : decode cX1_findPlaces 32 = .ok (.if_icmp .ge 43, 3) := by decide +kernel
theorem dX1_findPlaces_35 : decode cX1_findPlaces 35 = .ok (.aload_n 0, 1) := by decide +kernel
theorem dX1_findPlaces_36 : decode cX1_findPlaces 36 = .ok (.aload_n 1, 1) := by decide +kernel
theorem dX1_findPlaces_37 : decode cX1_findPlaces 37 = .ok (.iload_n 2, 1) := by decide +kernel
theorem dX1_findPlaces_38 : decode cX1_findPlaces 38 = .ok (.iload_n 3, 1) := by decide +kernel
theorem dX1_findPlaces_39 : decode cX1_findPlaces 39 = .ok (.invokevirtual 45, 3) := by decide +kernel
theorem dX1_findPlaces_42 : decode cX1_findPlaces 42 = .ok (.ifCond .eq 33, 3) := by decide +kernel
theorem dX1_findPlaces_45 : decode cX1_findPlaces 45 = .ok (.aload_n 0, 1) := by decide +kernel
theorem dX1_findPlaces_46 : decode cX1_findPlaces 46 = .ok (.getfield 21, 3) := by decide +kernel
theorem dX1_findPlaces_49 : decode cX1_findPlaces 49 = .ok (.aload_n 0, 1) := by decide +kernel
theorem dX1_findPlaces_50 : decode cX1_findPlaces 50 = .ok (.getfield 34, 3) := by decide +kernel
theorem dX1_findPlaces_53 : decode cX1_findPlaces 53 = .ok (.iload_n 2, 1) := by decide +kernel
theorem dX1_findPlaces_54 : decode cX1_findPlaces 54 = .ok (.iastore, 1) := by decide +kernel
theorem dX1_findPlaces_55 : decode cX1_findPlaces 55 = .ok (.aload_n 0, 1) := by decide +kernel
theorem dX1_findPlaces_56 : decode cX1_findPlaces 56 = .ok (.getfield 24, 3) := by decide +kernel
theorem dX1_findPlaces_59 : decode cX1_findPlaces 59 = .ok (.aload_n 0, 1) := by decide +kernel
theorem dX1_findPlaces_60 : decode cX1_findPlaces 60 = .ok (.getfield 34, 3) := by decide +kernel
theorem dX1_findPlaces_63 : decode cX1_findPlaces 63 = .ok (.iload_n 3, 1) := by decide +kernel
theorem dX1_findPlaces_64 : decode cX1_findPlaces 64 = .ok (.iastore, 1) := by decide +kernel
theorem dX1_findPlaces_65 : decode cX1_findPlaces 65 = .ok (.aload_n 0, 1) := by decide +kernel
theorem dX1_findPlaces_66 : decode cX1_findPlaces 66 = .ok (.dup, 1) := by decide +kernel
theorem dX1_findPlaces_67 : decode cX1_findPlaces 67 = .ok (.getfield 34, 3) := by decide +kernel
theorem dX1_findPlaces_70 : decode cX1_findPlaces 70 = .ok (.iconst 1, 1) := by decide +kernel
theorem dX1_findPlaces_71 : decode cX1_findPlaces 71 = .ok (.iadd, 1) := by decide +kernel
theorem dX1_findPlaces_72 : decode cX1_findPlaces 72 = .ok (.putfield 34, 3) := by decide +kernel
theorem dX1_findPlaces_75 : decode cX1_findPlaces 75 = .ok (.iinc 3 1, 3) := by decide +kernel
theorem dX1_findPlaces_78 : decode cX1_findPlaces 78 = .ok (.goto (-61), 3) := by decide +kernel
theorem dX1_findPlaces_81 : decode cX1_findPlaces 81 = .ok (.iinc 2 1, 3) := by decide +kernel
theorem dX1_findPlaces_84 : decode cX1_findPlaces 84 = .ok (.goto (-77), 3) := by decide +kernel
theorem dX1_findPlaces_87 : decode cX1_findPlaces 87 = .ok (.return_, 1) := by decide +kernel
set_option maxRecDepth 20000 in
theorem ggX1_isPossible_X3_waySquared : GoodIn wsX1_isPossible wsX3_waySquared := goodIn_r _ [9, 10, 11, 12, 8, 13, 14, 15, 16, 17, 18, 19, 20, 21, 22, 23, 24, 25, 26, 37, 38, 39, 40, 41, 42, 43, 44, 45, 46, 47, 48] (by decide +kernel) (by decide +kernel)
set_option maxRecDepth 20000 in
theorem gX1_isPossible_X3_waySquared : GoodIn wsX1_isPossible (wsV RX1 49 RX3 yX3_waySquared wsX3_waySquared) := goodIn_app (goodIn_of _ (by decide +kernel)) ggX1_isPossible_X3_waySquared
set_option maxRecDepth 20000 in
theorem ggX1_isPossible_X5_timeOf : GoodIn wsX1_isPossible wsX5_timeOf := goodIn_r _ [28] (by decide +kernel) (by decide +kernel)
set_option maxRecDepth 20000 in
theorem gX1_isPossible_X5_timeOf_n53 : GoodIn wsX1_isPossible (wsX5_timeOf) := ggX1_isPossible_X5_timeOf
theorem dX1_isPossible_0 : decode cX1_isPossible 0 = .ok (.iconst 0, 1) := by decide +kernel
theorem dX1_isPossible_1 : decode cX1_isPossible 1 = .ok (.istore 4, 2) := by decide +kernel
theorem dX1_isPossible_3 : decode cX1_isPossible 3 = .ok (.iload 4, 2) := by decide +kernel
theorem dX1_isPossible_5 : decode cX1_isPossible 5 = .ok (.aload_n 0, 1) := by decide +kernel
theorem dX1_isPossible_6 : decode cX1_isPossible 6 = .ok (.getfield 30, 3) := by decide +kernel
theorem dX1_isPossible_9 : decode cX1_isPossible 9 = .ok (.if_icmp .ge 44, 3) := by decide +kernel
theorem dX1_isPossible_12 : decode cX1_isPossible 12 = .ok (.aload_n 1, 1) := by decide +kernel
theorem dX1_isPossible_13 : decode cX1_isPossible 13 = .ok (.aload_n 0, 1) := by decide +kernel
theorem dX1_isPossible_14 : decode cX1_isPossible 14 = .ok (.getfield 9, 3) := by decide +kernel
theorem dX1_isPossible_17 : decode cX1_isPossible 17 = .ok (.iload 4, 2) := by decide +kernel
theorem dX1_isPossible_19 : decode cX1_isPossible 19 = .ok (.iaload, 1) := by decide +kernel
theorem dX1_isPossible_20 : decode cX1_isPossible 20 = .ok (.aload_n 0, 1) := by decide +kernel
theorem dX1_isPossible_21 : decode cX1_isPossible 21 = .ok (.getfield 15, 3) := by decide +kernel
theorem dX1_isPossible_24 : decode cX1_isPossible 24 = .ok (.iload 4, 2) := by decide +kernel
theorem dX1_isPossible_26 : decode cX1_isPossible 26 = .ok (.iaload, 1) := by decide +kernel
theorem dX1_isPossible_27 : decode cX1_isPossible 27 = .ok (.iload_n 2, 1) := by decide +kernel
theorem dX1_isPossible_28 : decode cX1_isPossible 28 = .ok (.iload_n 3, 1) := by decide +kernel
theorem dX1_isPossible_29 : decode cX1_isPossible 29 = .ok (.invokevirtual 49, 3) := by decide +kernel
theorem dX1_isPossible_32 : decode cX1_isPossible 32 = .ok (.invokestatic 53, 3) := by decide +kernel
theorem dX1_isPossible_35 : decode cX1_isPossible 35 = .ok (.aload_n 0, 1) := by decide +kernel
theorem dX1_isPossible_36 : decode cX1_isPossible 36 = .ok (.getfield 18, 3) := by decide +kernel
theorem dX1_isPossible_39 : decode cX1_isPossible 39 = .ok (.iload 4, 2) := by decide +kernel
theorem dX1_isPossible_41 : decode cX1_isPossible 41 = .ok (.iaload, 1) := by decide +kernel
theorem dX1_isPossible_42 : decode cX1_isPossible 42 = .ok (.if_icmp .eq 5, 3) := by decide +kernel
theorem dX1_isPossible_45 : decode cX1_isPossible 45 = .ok (.iconst 0, 1) := by decide +kernel
theorem dX1_isPossible_46 : decode cX1_isPossible 46 = .ok (.ireturn, 1) := by decide +kernel
theorem dX1_isPossible_47 : decode cX1_isPossible 47 = .ok (.iinc 4 1, 3) := by decide +kernel
theorem dX1_isPossible_50 : decode cX1_isPossible 50 = .ok (.goto (-47), 3) := by decide +kernel
theorem dX1_isPossible_53 : decode cX1_isPossible 53 = .ok (.iconst 1, 1) := by decide +kernel
theorem dX1_isPossible_54 : decode cX1_isPossible 54 = .ok (.ireturn, 1) := by decide +kernel
set_option maxRecDepth 20000 in
theorem ggX1_tellingImage_J7_fill_53178 : GoodIn wsX1_tellingImage wsJ7_fill_53178 := goodIn_r _ [9] (by decide +kernel) (by decide +kernel)
set_option maxRecDepth 20000 in
theorem gX1_tellingImage_J7_fill_53178 : GoodIn wsX1_tellingImage (va_wsS RX1 57 yJ7_fill_53178 wsJ7_fill_53178) := goodIn_app (goodIn_of _ (by decide +kernel)) ggX1_tellingImage_J7_fill_53178
set_option maxRecDepth 20000 in
theorem ggX1_tellingImage_X1_unlikeTimes : GoodIn wsX1_tellingImage wsX1_unlikeTimes := goodIn_r _ [14, 15, 16, 17, 1, 18, 19, 20, 21, 22, 23, 24, 25, 26, 27, 28, 29, 30, 31, 32, 33, 34, 35, 36, 37, 40, 41, 42, 43, 44, 45, 46, 47, 48, 49, 50, 51, 52, 53, 54, 55, 56, 57, 58, 59] (by decide +kernel) (by decide +kernel)
set_option maxRecDepth 20000 in
theorem gX1_tellingImage_X1_unlikeTimes : GoodIn wsX1_tellingImage (wsV RX1 68 RX1 yX1_unlikeTimes wsX1_unlikeTimes) := goodIn_app (goodIn_of _ (by decide +kernel)) ggX1_tellingImage_X1_unlikeTimes
set_option maxRecDepth 20000 in
theorem ggX1_tellingImage_X5_imageCode : GoodIn wsX1_tellingImage wsX5_imageCode := goodIn_r _ [39] (by decide +kernel) (by decide +kernel)
set_option maxRecDepth 20000 in
theorem gX1_tellingImage_X5_imageCode_n72 : GoodIn wsX1_tellingImage (wsX5_imageCode) := ggX1_tellingImage_X5_imageCode
theorem dX1_tellingImage_0 : decode cX1_tellingImage 0 = .ok (.bipush (-9), 2) := by decide +kernel
theorem dX1_tellingImage_2 : decode cX1_tellingImage 2 = .ok (.istore_n 2, 1) := by decide +kernel
theorem dX1_tellingImage_3 : decode cX1_tellingImage 3 = .ok (.iconst 0, 1) := by decide +kernel
theorem dX1_tellingImage_4 : decode cX1_tellingImage 4 = .ok (.istore_n 3, 1) := by decide +kernel
theorem dX1_tellingImage_5 : decode cX1_tellingImage 5 = .ok (.iconst 0, 1) := by decide +kernel
theorem dX1_tellingImage_6 : decode cX1_tellingImage 6 = .ok (.istore 4, 2) := by decide +kernel
theorem dX1_tellingImage_8 : decode cX1_tellingImage 8 = .ok (.aload_n 0, 1) := by decide +kernel
theorem dX1_tellingImage_9 : decode cX1_tellingImage 9 = .ok (.getfield 27, 3) := by decide +kernel
theorem dX1_tellingImage_12 : decode cX1_tellingImage 12 = .ok (.iconst 0, 1) := by decide +kernel
theorem dX1_tellingImage_13 : decode cX1_tellingImage 13 = .ok (.invokestatic 57, 3) := by decide +kernel
theorem dX1_tellingImage_16 : decode cX1_tellingImage 16 = .ok (.bipush (-3), 2) := by decide +kernel
theorem dX1_tellingImage_18 : decode cX1_tellingImage 18 = .ok (.istore 5, 2) := by decide +kernel
theorem dX1_tellingImage_20 : decode cX1_tellingImage 20 = .ok (.iload 5, 2) := by decide +kernel
theorem dX1_tellingImage_22 : decode cX1_tellingImage 22 = .ok (.iconst 3, 1) := by decide +kernel
theorem dX1_tellingImage_23 : decode cX1_tellingImage 23 = .ok (.if_icmp .gt 69, 3) := by decide +kernel
theorem dX1_tellingImage_26 : decode cX1_tellingImage 26 = .ok (.iconst 3, 1) := by decide +kernel
theorem dX1_tellingImage_27 : decode cX1_tellingImage 27 = .ok (.iload 5, 2) := by decide +kernel
theorem dX1_tellingImage_29 : decode cX1_tellingImage 29 = .ok (.invokestatic 63, 3) := by decide +kernel
theorem dX1_tellingImage_32 : decode cX1_tellingImage 32 = .ok (.isub, 1) := by decide +kernel
theorem dX1_tellingImage_33 : decode cX1_tellingImage 33 = .ok (.istore 6, 2) := by decide +kernel
theorem dX1_tellingImage_35 : decode cX1_tellingImage 35 = .ok (.iload 6, 2) := by decide +kernel
theorem dX1_tellingImage_37 : decode cX1_tellingImage 37 = .ok (.ineg, 1) := by decide +kernel
theorem dX1_tellingImage_38 : decode cX1_tellingImage 38 = .ok (.istore 7, 2) := by decide +kernel
theorem dX1_tellingImage_40 : decode cX1_tellingImage 40 = .ok (.iload 7, 2) := by decide +kernel
theorem dX1_tellingImage_42 : decode cX1_tellingImage 42 = .ok (.iload 6, 2) := by decide +kernel
theorem dX1_tellingImage_44 : decode cX1_tellingImage 44 = .ok (.if_icmp .gt 42, 3) := by decide +kernel
theorem dX1_tellingImage_47 : decode cX1_tellingImage 47 = .ok (.iinc 4 1, 3) := by decide +kernel
theorem dX1_tellingImage_50 : decode cX1_tellingImage 50 = .ok (.aload_n 0, 1) := by decide +kernel
theorem dX1_tellingImage_51 : decode cX1_tellingImage 51 = .ok (.aload_n 1, 1) := by decide +kernel
theorem dX1_tellingImage_52 : decode cX1_tellingImage 52 = .ok (.iload 5, 2) := by decide +kernel
theorem dX1_tellingImage_54 : decode cX1_tellingImage 54 = .ok (.iload 7, 2) := by decide +kernel
theorem dX1_tellingImage_56 : decode cX1_tellingImage 56 = .ok (.iload 4, 2) := by decide +kernel
theorem dX1_tellingImage_58 : decode cX1_tellingImage 58 = .ok (.invokevirtual 68, 3) := by decide +kernel
theorem dX1_tellingImage_61 : decode cX1_tellingImage 61 = .ok (.istore 8, 2) := by decide +kernel
theorem dX1_tellingImage_63 : decode cX1_tellingImage 63 = .ok (.iload 8, 2) := by decide +kernel
theorem dX1_tellingImage_65 : decode cX1_tellingImage 65 = .ok (.iload_n 3, 1) := by decide +kernel
theorem dX1_tellingImage_66 : decode cX1_tellingImage 66 = .ok (.if_icmp .le 14, 3) := by decide +kernel
theorem dX1_tellingImage_69 : decode cX1_tellingImage 69 = .ok (.iload 8, 2) := by decide +kernel
theorem dX1_tellingImage_71 : decode cX1_tellingImage 71 = .ok (.istore_n 3, 1) := by decide +kernel
theorem dX1_tellingImage_72 : decode cX1_tellingImage 72 = .ok (.iload 5, 2) := by decide +kernel
theorem dX1_tellingImage_74 : decode cX1_tellingImage 74 = .ok (.iload 7, 2) := by decide +kernel
theorem dX1_tellingImage_76 : decode cX1_tellingImage 76 = .ok (.invokestatic 72, 3) := by decide +kernel
theorem dX1_tellingImage_79 : decode cX1_tellingImage 79 = .ok (.istore_n 2, 1) := by decide +kernel
theorem dX1_tellingImage_80 : decode cX1_tellingImage 80 = .ok (.iinc 7 1, 3) := by decide +kernel
theorem dX1_tellingImage_83 : decode cX1_tellingImage 83 = .ok (.goto (-43), 3) := by decide +kernel
theorem dX1_tellingImage_86 : decode cX1_tellingImage 86 = .ok (.iinc 5 1, 3) := by decide +kernel
theorem dX1_tellingImage_89 : decode cX1_tellingImage 89 = .ok (.goto (-69), 3) := by decide +kernel
theorem dX1_tellingImage_92 : decode cX1_tellingImage 92 = .ok (.iload_n 2, 1) := by decide +kernel
theorem dX1_tellingImage_93 : decode cX1_tellingImage 93 = .ok (.ireturn, 1) := by decide +kernel
set_option maxRecDepth 20000 in
theorem ggX1_unlikeTimes_X3_imageX : GoodIn wsX1_unlikeTimes wsX3_imageX := goodIn_r _ [9, 10, 11, 12, 13, 14, 33, 34, 35, 36, 37, 38, 39, 40, 41, 42, 43, 44] (by decide +kernel) (by decide +kernel)
set_option maxRecDepth 20000 in
theorem gX1_unlikeTimes_X3_imageX : GoodIn wsX1_unlikeTimes (wsV RX1 76 RX3 yX3_imageX wsX3_imageX) := goodIn_app (goodIn_of _ (by decide +kernel)) ggX1_unlikeTimes_X3_imageX
set_option maxRecDepth 20000 in
theorem ggX1_unlikeTimes_X3_imageY : GoodIn wsX1_unlikeTimes wsX3_imageY := goodIn_r _ [18, 19, 20, 12, 13, 14, 33, 34, 35, 36, 37, 38, 39, 40, 41, 42, 43, 44] (by decide +kernel) (by decide +kernel)
set_option maxRecDepth 20000 in
theorem gX1_unlikeTimes_X3_imageY : GoodIn wsX1_unlikeTimes (wsV RX1 79 RX3 yX3_imageY wsX3_imageY) := goodIn_app (goodIn_of _ (by decide +kernel)) ggX1_unlikeTimes_X3_imageY
set_option maxRecDepth 20000 in
theorem ggX1_unlikeTimes_X5_squares : GoodIn wsX1_unlikeTimes wsX5_squares := goodIn_r _ [22] (by decide +kernel) (by decide +kernel)
set_option maxRecDepth 20000 in
theorem gX1_unlikeTimes_X5_squares_n82 : GoodIn wsX1_unlikeTimes (wsX5_squares) := ggX1_unlikeTimes_X5_squares
set_option maxRecDepth 20000 in
theorem ggX1_unlikeTimes_X5_timeOf : GoodIn wsX1_unlikeTimes wsX5_timeOf := goodIn_r _ [24] (by decide +kernel) (by decide +kernel)
set_option maxRecDepth 20000 in
theorem gX1_unlikeTimes_X5_timeOf_n53 : GoodIn wsX1_unlikeTimes (wsX5_timeOf) := ggX1_unlikeTimes_X5_timeOf
theorem dX1_unlikeTimes_0 : decode cX1_unlikeTimes 0 = .ok (.aload_n 1, 1) := by decide +kernel
theorem dX1_unlikeTimes_1 : decode cX1_unlikeTimes 1 = .ok (.iload_n 2, 1) := by decide +kernel
theorem dX1_unlikeTimes_2 : decode cX1_unlikeTimes 2 = .ok (.invokevirtual 76, 3) := by decide +kernel
theorem dX1_unlikeTimes_5 : decode cX1_unlikeTimes 5 = .ok (.istore 5, 2) := by decide +kernel
theorem dX1_unlikeTimes_7 : decode cX1_unlikeTimes 7 = .ok (.aload_n 1, 1) := by decide +kernel
theorem dX1_unlikeTimes_8 : decode cX1_unlikeTimes 8 = .ok (.iload_n 3, 1) := by decide +kernel
theorem dX1_unlikeTimes_9 : decode cX1_unlikeTimes 9 = .ok (.invokevirtual 79, 3) := by decide +kernel
theorem dX1_unlikeTimes_12 : decode cX1_unlikeTimes 12 = .ok (.istore 6, 2) := by decide +kernel
theorem dX1_unlikeTimes_14 : decode cX1_unlikeTimes 14 = .ok (.iconst 0, 1) := by decide +kernel
theorem dX1_unlikeTimes_15 : decode cX1_unlikeTimes 15 = .ok (.istore 7, 2) := by decide +kernel
theorem dX1_unlikeTimes_17 : decode cX1_unlikeTimes 17 = .ok (.iconst 0, 1) := by decide +kernel
theorem dX1_unlikeTimes_18 : decode cX1_unlikeTimes 18 = .ok (.istore 8, 2) := by decide +kernel
theorem dX1_unlikeTimes_20 : decode cX1_unlikeTimes 20 = .ok (.iload 8, 2) := by decide +kernel
theorem dX1_unlikeTimes_22 : decode cX1_unlikeTimes 22 = .ok (.aload_n 0, 1) := by decide +kernel
theorem dX1_unlikeTimes_23 : decode cX1_unlikeTimes 23 = .ok (.getfield 34, 3) := by decide +kernel
theorem dX1_unlikeTimes_26 : decode cX1_unlikeTimes 26 = .ok (.if_icmp .ge 69, 3) := by decide +kernel
theorem dX1_unlikeTimes_29 : decode cX1_unlikeTimes 29 = .ok (.iload 5, 2) := by decide +kernel
theorem dX1_unlikeTimes_31 : decode cX1_unlikeTimes 31 = .ok (.aload_n 0, 1) := by decide +kernel
theorem dX1_unlikeTimes_32 : decode cX1_unlikeTimes 32 = .ok (.getfield 21, 3) := by decide +kernel
theorem dX1_unlikeTimes_35 : decode cX1_unlikeTimes 35 = .ok (.iload 8, 2) := by decide +kernel
theorem dX1_unlikeTimes_37 : decode cX1_unlikeTimes 37 = .ok (.iaload, 1) := by decide +kernel
theorem dX1_unlikeTimes_38 : decode cX1_unlikeTimes 38 = .ok (.isub, 1) := by decide +kernel
theorem dX1_unlikeTimes_39 : decode cX1_unlikeTimes 39 = .ok (.iload 6, 2) := by decide +kernel
theorem dX1_unlikeTimes_41 : decode cX1_unlikeTimes 41 = .ok (.aload_n 0, 1) := by decide +kernel
theorem dX1_unlikeTimes_42 : decode cX1_unlikeTimes 42 = .ok (.getfield 24, 3) := by decide +kernel
theorem dX1_unlikeTimes_45 : decode cX1_unlikeTimes 45 = .ok (.iload 8, 2) := by decide +kernel
theorem dX1_unlikeTimes_47 : decode cX1_unlikeTimes 47 = .ok (.iaload, 1) := by decide +kernel
theorem dX1_unlikeTimes_48 : decode cX1_unlikeTimes 48 = .ok (.isub, 1) := by decide +kernel
theorem dX1_unlikeTimes_49 : decode cX1_unlikeTimes 49 = .ok (.invokestatic 82, 3) := by decide +kernel
theorem dX1_unlikeTimes_52 : decode cX1_unlikeTimes 52 = .ok (.invokestatic 53, 3) := by decide +kernel
theorem dX1_unlikeTimes_55 : decode cX1_unlikeTimes 55 = .ok (.istore 9, 2) := by decide +kernel
theorem dX1_unlikeTimes_57 : decode cX1_unlikeTimes 57 = .ok (.iload 9, 2) := by decide +kernel
theorem dX1_unlikeTimes_59 : decode cX1_unlikeTimes 59 = .ok (.sipush 1024, 3) := by decide +kernel
theorem dX1_unlikeTimes_62 : decode cX1_unlikeTimes 62 = .ok (.if_icmp .ge 27, 3) := by decide +kernel
theorem dX1_unlikeTimes_65 : decode cX1_unlikeTimes 65 = .ok (.aload_n 0, 1) := by decide +kernel
theorem dX1_unlikeTimes_66 : decode cX1_unlikeTimes 66 = .ok (.getfield 27, 3) := by decide +kernel
theorem dX1_unlikeTimes_69 : decode cX1_unlikeTimes 69 = .ok (.iload 9, 2) := by decide +kernel
theorem dX1_unlikeTimes_71 : decode cX1_unlikeTimes 71 = .ok (.iaload, 1) := by decide +kernel
theorem dX1_unlikeTimes_72 : decode cX1_unlikeTimes 72 = .ok (.iload 4, 2) := by decide +kernel
theorem dX1_unlikeTimes_74 : decode cX1_unlikeTimes 74 = .ok (.if_icmp .eq 15, 3) := by decide +kernel
theorem dX1_unlikeTimes_77 : decode cX1_unlikeTimes 77 = .ok (.aload_n 0, 1) := by decide +kernel
theorem dX1_unlikeTimes_78 : decode cX1_unlikeTimes 78 = .ok (.getfield 27, 3) := by decide +kernel
theorem dX1_unlikeTimes_81 : decode cX1_unlikeTimes 81 = .ok (.iload 9, 2) := by decide +kernel
theorem dX1_unlikeTimes_83 : decode cX1_unlikeTimes 83 = .ok (.iload 4, 2) := by decide +kernel
theorem dX1_unlikeTimes_85 : decode cX1_unlikeTimes 85 = .ok (.iastore, 1) := by decide +kernel
theorem dX1_unlikeTimes_86 : decode cX1_unlikeTimes 86 = .ok (.iinc 7 1, 3) := by decide +kernel
theorem dX1_unlikeTimes_89 : decode cX1_unlikeTimes 89 = .ok (.iinc 8 1, 3) := by decide +kernel
theorem dX1_unlikeTimes_92 : decode cX1_unlikeTimes 92 = .ok (.goto (-72), 3) := by decide +kernel
theorem dX1_unlikeTimes_95 : decode cX1_unlikeTimes 95 = .ok (.iload 7, 2) := by decide +kernel
theorem dX1_unlikeTimes_97 : decode cX1_unlikeTimes 97 = .ok (.ireturn, 1) := by decide +kernel
theorem dX2_init_0 : decode cX2_init 0 = .ok (.aload_n 0, 1) := by decide +kernel
theorem dX2_init_1 : decode cX2_init 1 = .ok (.invokespecial 3, 3) := by decide +kernel
theorem dX2_init_4 : decode cX2_init 4 = .ok (.aload_n 0, 1) := by decide +kernel
theorem dX2_init_5 : decode cX2_init 5 = .ok (.bipush 10, 2) := by decide +kernel
theorem dX2_init_7 : decode cX2_init 7 = .ok (.newarray .int, 2) := by decide +kernel
theorem dX2_init_9 : decode cX2_init 9 = .ok (.putfield 9, 3) := by decide +kernel
theorem dX2_init_12 : decode cX2_init 12 = .ok (.aload_n 0, 1) := by decide +kernel
theorem dX2_init_13 : decode cX2_init 13 = .ok (.bipush 10, 2) := by decide +kernel
theorem dX2_init_15 : decode cX2_init 15 = .ok (.newarray .int, 2) := by decide +kernel
theorem dX2_init_17 : decode cX2_init 17 = .ok (.putfield 15, 3) := by decide +kernel
theorem dX2_init_20 : decode cX2_init 20 = .ok (.aload_n 0, 1) := by decide +kernel
theorem dX2_init_21 : decode cX2_init 21 = .ok (.bipush 10, 2) := by decide +kernel
theorem dX2_init_23 : decode cX2_init 23 = .ok (.newarray .int, 2) := by decide +kernel
theorem dX2_init_25 : decode cX2_init 25 = .ok (.putfield 18, 3) := by decide +kernel
theorem dX2_init_28 : decode cX2_init 28 = .ok (.aload_n 0, 1) := by decide +kernel
theorem dX2_init_29 : decode cX2_init 29 = .ok (.bipush 10, 2) := by decide +kernel
theorem dX2_init_31 : decode cX2_init 31 = .ok (.newarray .int, 2) := by decide +kernel
theorem dX2_init_33 : decode cX2_init 33 = .ok (.putfield 21, 3) := by decide +kernel
theorem dX2_init_36 : decode cX2_init 36 = .ok (.return_, 1) := by decide +kernel
set_option maxRecDepth 20000 in
theorem ggX2_add_X2_loseOldest : GoodIn wsX2_add wsX2_loseOldest := goodIn_r _ [10, 1, 2, 11, 12, 13, 14, 3, 4, 5, 15, 16, 17, 18, 19] (by decide +kernel) (by decide +kernel)
set_option maxRecDepth 20000 in
theorem gX2_add_X2_loseOldest : GoodIn wsX2_add (wsV RX2 28 RX2 yX2_loseOldest wsX2_loseOldest) := goodIn_app (goodIn_of _ (by decide +kernel)) ggX2_add_X2_loseOldest
theorem dX2_add_0 : decode cX2_add 0 = .ok (.aload_n 0, 1) := by decide +kernel
theorem dX2_add_1 : decode cX2_add 1 = .ok (.getfield 24, 3) := by decide +kernel
theorem dX2_add_4 : decode cX2_add 4 = .ok (.bipush 10, 2) := by decide +kernel
theorem dX2_add_6 : decode cX2_add 6 = .ok (.if_icmp .lt 7, 3) := by decide +kernel
theorem dX2_add_9 : decode cX2_add 9 = .ok (.aload_n 0, 1) := by decide +kernel
theorem dX2_add_10 : decode cX2_add 10 = .ok (.invokevirtual 28, 3) := by decide +kernel
theorem dX2_add_13 : decode cX2_add 13 = .ok (.aload_n 0, 1) := by decide +kernel
theorem dX2_add_14 : decode cX2_add 14 = .ok (.getfield 9, 3) := by decide +kernel
theorem dX2_add_17 : decode cX2_add 17 = .ok (.aload_n 0, 1) := by decide +kernel
theorem dX2_add_18 : decode cX2_add 18 = .ok (.getfield 24, 3) := by decide +kernel
theorem dX2_add_21 : decode cX2_add 21 = .ok (.iload_n 1, 1) := by decide +kernel
theorem dX2_add_22 : decode cX2_add 22 = .ok (.iastore, 1) := by decide +kernel
theorem dX2_add_23 : decode cX2_add 23 = .ok (.aload_n 0, 1) := by decide +kernel
theorem dX2_add_24 : decode cX2_add 24 = .ok (.getfield 15, 3) := by decide +kernel
theorem dX2_add_27 : decode cX2_add 27 = .ok (.aload_n 0, 1) := by decide +kernel
theorem dX2_add_28 : decode cX2_add 28 = .ok (.getfield 24, 3) := by decide +kernel
theorem dX2_add_31 : decode cX2_add 31 = .ok (.iload_n 2, 1) := by decide +kernel
theorem dX2_add_32 : decode cX2_add 32 = .ok (.iastore, 1) := by decide +kernel
theorem dX2_add_33 : decode cX2_add 33 = .ok (.aload_n 0, 1) := by decide +kernel
theorem dX2_add_34 : decode cX2_add 34 = .ok (.getfield 18, 3) := by decide +kernel
theorem dX2_add_37 : decode cX2_add 37 = .ok (.aload_n 0, 1) := by decide +kernel
theorem dX2_add_38 : decode cX2_add 38 = .ok (.getfield 24, 3) := by decide +kernel
theorem dX2_add_41 : decode cX2_add 41 = .ok (.iload_n 3, 1) := by decide +kernel
theorem dX2_add_42 : decode cX2_add 42 = .ok (.iastore, 1) := by decide +kernel
theorem dX2_add_43 : decode cX2_add 43 = .ok (.aload_n 0, 1) := by decide +kernel
theorem dX2_add_44 : decode cX2_add 44 = .ok (.getfield 21, 3) := by decide +kernel
theorem dX2_add_47 : decode cX2_add 47 = .ok (.aload_n 0, 1) := by decide +kernel
theorem dX2_add_48 : decode cX2_add 48 = .ok (.getfield 24, 3) := by decide +kernel
theorem dX2_add_51 : decode cX2_add 51 = .ok (.iload 4, 2) := by decide +kernel
theorem dX2_add_53 : decode cX2_add 53 = .ok (.iastore, 1) := by decide +kernel
theorem dX2_add_54 : decode cX2_add 54 = .ok (.aload_n 0, 1) := by decide +kernel
theorem dX2_add_55 : decode cX2_add 55 = .ok (.dup, 1) := by decide +kernel
theorem dX2_add_56 : decode cX2_add 56 = .ok (.getfield 24, 3) := by decide +kernel
theorem dX2_add_59 : decode cX2_add 59 = .ok (.iconst 1, 1) := by decide +kernel
theorem dX2_add_60 : decode cX2_add 60 = .ok (.iadd, 1) := by decide +kernel
theorem dX2_add_61 : decode cX2_add 61 = .ok (.putfield 24, 3) := by decide +kernel
theorem dX2_add_64 : decode cX2_add 64 = .ok (.return_, 1) := by decide +kernel
theorem dX2_loseOldest_0 : decode cX2_loseOldest 0 = .ok (.aload_n 0, 1) := by decide +kernel
theorem dX2_loseOldest_1 : decode cX2_loseOldest 1 = .ok (.bipush 9, 2) := by decide +kernel
theorem dX2_loseOldest_3 : decode cX2_loseOldest 3 = .ok (.putfield 24, 3) := by decide +kernel
theorem dX2_loseOldest_6 : decode cX2_loseOldest 6 = .ok (.aload_n 0, 1) := by decide +kernel
theorem dX2_loseOldest_7 : decode cX2_loseOldest 7 = .ok (.getfield 9, 3) := by decide +kernel
theorem dX2_loseOldest_10 : decode cX2_loseOldest 10 = .ok (.iconst 1, 1) := by decide +kernel
theorem dX2_loseOldest_11 : decode cX2_loseOldest 11 = .ok (.aload_n 0, 1) := by decide +kernel
theorem dX2_loseOldest_12 : decode cX2_loseOldest 12 = .ok (.getfield 9, 3) := by decide +kernel
theorem dX2_loseOldest_15 : decode cX2_loseOldest 15 = .ok (.iconst 0, 1) := by decide +kernel
theorem dX2_loseOldest_16 : decode cX2_loseOldest 16 = .ok (.aload_n 0, 1) := by decide +kernel
theorem dX2_loseOldest_17 : decode cX2_loseOldest 17 = .ok (.getfield 24, 3) := by decide +kernel
theorem dX2_loseOldest_20 : decode cX2_loseOldest 20 = .ok (.invokestatic 31, 3) := by decide +kernel
theorem dX2_loseOldest_23 : decode cX2_loseOldest 23 = .ok (.aload_n 0, 1) := by decide +kernel
theorem dX2_loseOldest_24 : decode cX2_loseOldest 24 = .ok (.getfield 15, 3) := by decide +kernel
theorem dX2_loseOldest_27 : decode cX2_loseOldest 27 = .ok (.iconst 1, 1) := by decide +kernel
theorem dX2_loseOldest_28 : decode cX2_loseOldest 28 = .ok (.aload_n 0, 1) := by decide +kernel
theorem dX2_loseOldest_29 : decode cX2_loseOldest 29 = .ok (.getfield 15, 3) := by decide +kernel
theorem dX2_loseOldest_32 : decode cX2_loseOldest 32 = .ok (.iconst 0, 1) := by decide +kernel
theorem dX2_loseOldest_33 : decode cX2_loseOldest 33 = .ok (.aload_n 0, 1) := by decide +kernel
theorem dX2_loseOldest_34 : decode cX2_loseOldest 34 = .ok (.getfield 24, 3) := by decide +kernel
theorem dX2_loseOldest_37 : decode cX2_loseOldest 37 = .ok (.invokestatic 31, 3) := by decide +kernel
theorem dX2_loseOldest_40 : decode cX2_loseOldest 40 = .ok (.aload_n 0, 1) := by decide +kernel
theorem dX2_loseOldest_41 : decode cX2_loseOldest 41 = .ok (.getfield 18, 3) := by decide +kernel
theorem dX2_loseOldest_44 : decode cX2_loseOldest 44 = .ok (.iconst 1, 1) := by decide +kernel
theorem dX2_loseOldest_45 : decode cX2_loseOldest 45 = .ok (.aload_n 0, 1) := by decide +kernel
theorem dX2_loseOldest_46 : decode cX2_loseOldest 46 = .ok (.getfield 18, 3) := by decide +kernel
theorem dX2_loseOldest_49 : decode cX2_loseOldest 49 = .ok (.iconst 0, 1) := by decide +kernel
theorem dX2_loseOldest_50 : decode cX2_loseOldest 50 = .ok (.aload_n 0, 1) := by decide +kernel
theorem dX2_loseOldest_51 : decode cX2_loseOldest 51 = .ok (.getfield 24, 3) := by decide +kernel
theorem dX2_loseOldest_54 : decode cX2_loseOldest 54 = .ok (.invokestatic 31, 3) := by decide +kernel
theorem dX2_loseOldest_57 : decode cX2_loseOldest 57 = .ok (.aload_n 0, 1) := by decide +kernel
theorem dX2_loseOldest_58 : decode cX2_loseOldest 58 = .ok (.getfield 21, 3) := by decide +kernel
theorem dX2_loseOldest_61 : decode cX2_loseOldest 61 = .ok (.iconst 1, 1) := by decide +kernel
theorem dX2_loseOldest_62 : decode cX2_loseOldest 62 = .ok (.aload_n 0, 1) := by decide +kernel
theorem dX2_loseOldest_63 : decode cX2_loseOldest 63 = .ok (.getfield 21, 3) := by decide +kernel
theorem dX2_loseOldest_66 : decode cX2_loseOldest 66 = .ok (.iconst 0, 1) := by decide +kernel
theorem dX2_loseOldest_67 : decode cX2_loseOldest 67 = .ok (.aload_n 0, 1) := by decide +kernel
theorem dX2_loseOldest_68 : decode cX2_loseOldest 68 = .ok (.getfield 24, 3) := by decide +kernel
theorem dX2_loseOldest_71 : decode cX2_loseOldest 71 = .ok (.invokestatic 31, 3) := by decide +kernel
theorem dX2_loseOldest_74 : decode cX2_loseOldest 74 = .ok (.return_, 1) := by decide +kernel
theorem dX2_takeBackIn_0 : decode cX2_takeBackIn 0 = .ok (.aload_n 0, 1) := by decide +kernel
theorem dX2_takeBackIn_1 : decode cX2_takeBackIn 1 = .ok (.getfield 24, 3) := by decide +kernel
theorem dX2_takeBackIn_4 : decode cX2_takeBackIn 4 = .ok (.ifCond .gt 4, 3) := by decide +kernel
theorem dX2_takeBackIn_7 : decode cX2_takeBackIn 7 = .ok (.return_, 1) := by decide +kernel
theorem dX2_takeBackIn_8 : decode cX2_takeBackIn 8 = .ok (.aload_n 0, 1) := by decide +kernel
theorem dX2_takeBackIn_9 : decode cX2_takeBackIn 9 = .ok (.dup, 1) := by decide +kernel
theorem dX2_takeBackIn_10 : decode cX2_takeBackIn 10 = .ok (.getfield 24, 3) := by decide +kernel
theorem dX2_takeBackIn_13 : decode cX2_takeBackIn 13 = .ok (.iconst 1, 1) := by decide +kernel
theorem dX2_takeBackIn_14 : decode cX2_takeBackIn 14 = .ok (.isub, 1) := by decide +kernel
theorem dX2_takeBackIn_15 : decode cX2_takeBackIn 15 = .ok (.putfield 24, 3) := by decide +kernel
theorem dX2_takeBackIn_18 : decode cX2_takeBackIn 18 = .ok (.aload_n 0, 1) := by decide +kernel
theorem dX2_takeBackIn_19 : decode cX2_takeBackIn 19 = .ok (.getfield 15, 3) := by decide +kernel
theorem dX2_takeBackIn_22 : decode cX2_takeBackIn 22 = .ok (.aload_n 0, 1) := by decide +kernel
theorem dX2_takeBackIn_23 : decode cX2_takeBackIn 23 = .ok (.getfield 24, 3) := by decide +kernel
theorem dX2_takeBackIn_26 : decode cX2_takeBackIn 26 = .ok (.iaload, 1) := by decide +kernel
theorem dX2_takeBackIn_27 : decode cX2_takeBackIn 27 = .ok (.istore_n 2, 1) := by decide +kernel
theorem dX2_takeBackIn_28 : decode cX2_takeBackIn 28 = .ok (.aload_n 0, 1) := by decide +kernel
theorem dX2_takeBackIn_29 : decode cX2_takeBackIn 29 = .ok (.getfield 9, 3) := by decide +kernel
theorem dX2_takeBackIn_32 : decode cX2_takeBackIn 32 = .ok (.aload_n 0, 1) := by decide +kernel
theorem dX2_takeBackIn_33 : decode cX2_takeBackIn 33 = .ok (.getfield 24, 3) := by decide +kernel
theorem dX2_takeBackIn_36 : decode cX2_takeBackIn 36 = .ok (.iaload, 1) := by decide +kernel
theorem dX2_takeBackIn_37 : decode cX2_takeBackIn 37 = .ok (.ifCond .ne 21, 3) := by decide +kernel
theorem dX2_takeBackIn_40 : decode cX2_takeBackIn 40 = .ok (.aload_n 1, 1) := by decide +kernel
theorem dX2_takeBackIn_41 : decode cX2_takeBackIn 41 = .ok (.getfield 37, 3) := by decide +kernel
theorem dX2_takeBackIn_44 : decode cX2_takeBackIn 44 = .ok (.iload_n 2, 1) := by decide +kernel
theorem dX2_takeBackIn_45 : decode cX2_takeBackIn 45 = .ok (.aload_n 0, 1) := by decide +kernel
theorem dX2_takeBackIn_46 : decode cX2_takeBackIn 46 = .ok (.getfield 18, 3) := by decide +kernel
theorem dX2_takeBackIn_49 : decode cX2_takeBackIn 49 = .ok (.aload_n 0, 1) := by decide +kernel
theorem dX2_takeBackIn_50 : decode cX2_takeBackIn 50 = .ok (.getfield 24, 3) := by decide +kernel
theorem dX2_takeBackIn_53 : decode cX2_takeBackIn 53 = .ok (.iaload, 1) := by decide +kernel
theorem dX2_takeBackIn_54 : decode cX2_takeBackIn 54 = .ok (.iastore, 1) := by decide +kernel
theorem dX2_takeBackIn_55 : decode cX2_takeBackIn 55 = .ok (.goto 75, 3) := by decide +kernel
theorem dX2_takeBackIn_58 : decode cX2_takeBackIn 58 = .ok (.aload_n 0, 1) := by decide +kernel
theorem dX2_takeBackIn_59 : decode cX2_takeBackIn 59 = .ok (.getfield 9, 3) := by decide +kernel
theorem dX2_takeBackIn_62 : decode cX2_takeBackIn 62 = .ok (.aload_n 0, 1) := by decide +kernel
theorem dX2_takeBackIn_63 : decode cX2_takeBackIn 63 = .ok (.getfield 24, 3) := by decide +kernel
theorem dX2_takeBackIn_66 : decode cX2_takeBackIn 66 = .ok (.iaload, 1) := by decide +kernel
theorem dX2_takeBackIn_67 : decode cX2_takeBackIn 67 = .ok (.iconst 1, 1) := by decide +kernel
theorem dX2_takeBackIn_68 : decode cX2_takeBackIn 68 = .ok (.if_icmp .ne 36, 3) := by decide +kernel
theorem dX2_takeBackIn_71 : decode cX2_takeBackIn 71 = .ok (.aload_n 1, 1) := by decide +kernel
theorem dX2_takeBackIn_72 : decode cX2_takeBackIn 72 = .ok (.getfield 42, 3) := by decide +kernel
theorem dX2_takeBackIn_75 : decode cX2_takeBackIn 75 = .ok (.iload_n 2, 1) := by decide +kernel
theorem dX2_takeBackIn_76 : decode cX2_takeBackIn 76 = .ok (.aload_n 0, 1) := by decide +kernel
theorem dX2_takeBackIn_77 : decode cX2_takeBackIn 77 = .ok (.getfield 18, 3) := by decide +kernel
theorem dX2_takeBackIn_80 : decode cX2_takeBackIn 80 = .ok (.aload_n 0, 1) := by decide +kernel
theorem dX2_takeBackIn_81 : decode cX2_takeBackIn 81 = .ok (.getfield 24, 3) := by decide +kernel
theorem dX2_takeBackIn_84 : decode cX2_takeBackIn 84 = .ok (.iaload, 1) := by decide +kernel
theorem dX2_takeBackIn_85 : decode cX2_takeBackIn 85 = .ok (.iastore, 1) := by decide +kernel
theorem dX2_takeBackIn_86 : decode cX2_takeBackIn 86 = .ok (.aload_n 1, 1) := by decide +kernel
theorem dX2_takeBackIn_87 : decode cX2_takeBackIn 87 = .ok (.getfield 45, 3) := by decide +kernel
theorem dX2_takeBackIn_90 : decode cX2_takeBackIn 90 = .ok (.iload_n 2, 1) := by decide +kernel
theorem dX2_takeBackIn_91 : decode cX2_takeBackIn 91 = .ok (.aload_n 0, 1) := by decide +kernel
theorem dX2_takeBackIn_92 : decode cX2_takeBackIn 92 = .ok (.getfield 21, 3) := by decide +kernel
theorem dX2_takeBackIn_95 : decode cX2_takeBackIn 95 = .ok (.aload_n 0, 1) := by decide +kernel
theorem dX2_takeBackIn_96 : decode cX2_takeBackIn 96 = .ok (.getfield 24, 3) := by decide +kernel
theorem dX2_takeBackIn_99 : decode cX2_takeBackIn 99 = .ok (.iaload, 1) := by decide +kernel
theorem dX2_takeBackIn_100 : decode cX2_takeBackIn 100 = .ok (.iastore, 1) := by decide +kernel
theorem dX2_takeBackIn_101 : decode cX2_takeBackIn 101 = .ok (.goto 29, 3) := by decide +kernel
theorem dX2_takeBackIn_104 : decode cX2_takeBackIn 104 = .ok (.aload_n 1, 1) := by decide +kernel
theorem dX2_takeBackIn_105 : decode cX2_takeBackIn 105 = .ok (.aload_n 0, 1) := by decide +kernel
theorem dX2_takeBackIn_106 : decode cX2_takeBackIn 106 = .ok (.getfield 18, 3) := by decide +kernel
theorem dX2_takeBackIn_109 : decode cX2_takeBackIn 109 = .ok (.aload_n 0, 1) := by decide +kernel
theorem dX2_takeBackIn_110 : decode cX2_takeBackIn 110 = .ok (.getfield 24, 3) := by decide +kernel
theorem dX2_takeBackIn_113 : decode cX2_takeBackIn 113 = .ok (.iaload, 1) := by decide +kernel
theorem dX2_takeBackIn_114 : decode cX2_takeBackIn 114 = .ok (.putfield 48, 3) := by decide +kernel
theorem dX2_takeBackIn_117 : decode cX2_takeBackIn 117 = .ok (.aload_n 1, 1) := by decide +kernel
theorem dX2_takeBackIn_118 : decode cX2_takeBackIn 118 = .ok (.aload_n 0, 1) := by decide +kernel
theorem dX2_takeBackIn_119 : decode cX2_takeBackIn 119 = .ok (.getfield 21, 3) := by decide +kernel
theorem dX2_takeBackIn_122 : decode cX2_takeBackIn 122 = .ok (.aload_n 0, 1) := by decide +kernel
theorem dX2_takeBackIn_123 : decode cX2_takeBackIn 123 = .ok (.getfield 24, 3) := by decide +kernel
theorem dX2_takeBackIn_126 : decode cX2_takeBackIn 126 = .ok (.iaload, 1) := by decide +kernel
theorem dX2_takeBackIn_127 : decode cX2_takeBackIn 127 = .ok (.putfield 51, 3) := by decide +kernel
theorem dX2_takeBackIn_130 : decode cX2_takeBackIn 130 = .ok (.return_, 1) := by decide +kernel
set_option maxRecDepth 20000 in
theorem ggX3_init_X3_beAsAtFirst : GoodIn wsX3_init wsX3_beAsAtFirst := goodIn_r _ [15, 16, 17, 18, 19, 20, 21, 5, 22, 23, 24, 25, 26, 27, 28, 29, 30, 31, 32, 33, 34, 35, 36, 37] (by decide +kernel) (by decide +kernel)
set_option maxRecDepth 20000 in
theorem gX3_init_X3_beAsAtFirst : GoodIn wsX3_init (wsV RX3 30 RX3 yX3_beAsAtFirst wsX3_beAsAtFirst) := goodIn_app (goodIn_of _ (by decide +kernel)) ggX3_init_X3_beAsAtFirst
theorem dX3_init_0 : decode cX3_init 0 = .ok (.aload_n 0, 1) := by decide +kernel
theorem dX3_init_1 : decode cX3_init 1 = .ok (.invokespecial 3, 3) := by decide +kernel
theorem dX3_init_4 : decode cX3_init 4 = .ok (.aload_n 0, 1) := by decide +kernel
theorem dX3_init_5 : decode cX3_init 5 = .ok (.iconst 4, 1) := by decide +kernel
theorem dX3_init_6 : decode cX3_init 6 = .ok (.newarray .int, 2) := by decide +kernel
theorem dX3_init_8 : decode cX3_init 8 = .ok (.putfield 9, 3) := by decide +kernel
theorem dX3_init_11 : decode cX3_init 11 = .ok (.aload_n 0, 1) := by decide +kernel
theorem dX3_init_12 : decode cX3_init 12 = .ok (.iconst 4, 1) := by decide +kernel
theorem dX3_init_13 : decode cX3_init 13 = .ok (.newarray .int, 2) := by decide +kernel
theorem dX3_init_15 : decode cX3_init 15 = .ok (.putfield 15, 3) := by decide +kernel
theorem dX3_init_18 : decode cX3_init 18 = .ok (.aload_n 0, 1) := by decide +kernel
theorem dX3_init_19 : decode cX3_init 19 = .ok (.iconst 4, 1) := by decide +kernel
theorem dX3_init_20 : decode cX3_init 20 = .ok (.newarray .int, 2) := by decide +kernel
theorem dX3_init_22 : decode cX3_init 22 = .ok (.putfield 18, 3) := by decide +kernel
theorem dX3_init_25 : decode cX3_init 25 = .ok (.aload_n 0, 1) := by decide +kernel
theorem dX3_init_26 : decode cX3_init 26 = .ok (.iconst 3, 1) := by decide +kernel
theorem dX3_init_27 : decode cX3_init 27 = .ok (.newarray .int, 2) := by decide +kernel
theorem dX3_init_29 : decode cX3_init 29 = .ok (.putfield 21, 3) := by decide +kernel
theorem dX3_init_32 : decode cX3_init 32 = .ok (.aload_n 0, 1) := by decide +kernel
theorem dX3_init_33 : decode cX3_init 33 = .ok (.iconst 3, 1) := by decide +kernel
theorem dX3_init_34 : decode cX3_init 34 = .ok (.newarray .int, 2) := by decide +kernel
theorem dX3_init_36 : decode cX3_init 36 = .ok (.putfield 24, 3) := by decide +kernel
theorem dX3_init_39 : decode cX3_init 39 = .ok (.aload_n 0, 1) := by decide +kernel
theorem dX3_init_40 : decode cX3_init 40 = .ok (.iconst 3, 1) := by decide +kernel
theorem dX3_init_41 : decode cX3_init 41 = .ok (.newarray .int, 2) := by decide +kernel
theorem dX3_init_43 : decode cX3_init 43 = .ok (.putfield 27, 3) := by decide +kernel
theorem dX3_init_46 : decode cX3_init 46 = .ok (.aload_n 0, 1) := by decide +kernel
theorem dX3_init_47 : decode cX3_init 47 = .ok (.invokevirtual 30, 3) := by decide +kernel
theorem dX3_init_50 : decode cX3_init 50 = .ok (.return_, 1) := by decide +kernel
set_option maxRecDepth 20000 in
theorem ggX3_beAsAtFirst_J7_fill_53178 : GoodIn wsX3_beAsAtFirst wsJ7_fill_53178 := goodIn_r _ [11] (by decide +kernel) (by decide +kernel)
set_option maxRecDepth 20000 in
theorem gX3_beAsAtFirst_J7_fill_53178 : GoodIn wsX3_beAsAtFirst (va_wsS RX3 52 yJ7_fill_53178 wsJ7_fill_53178) := goodIn_app (goodIn_of _ (by decide +kernel)) ggX3_beAsAtFirst_J7_fill_53178
theorem dX3_beAsAtFirst_0 : decode cX3_beAsAtFirst 0 = .ok (.aload_n 0, 1) := by decide +kernel
theorem dX3_beAsAtFirst_1 : decode cX3_beAsAtFirst 1 = .ok (.bipush 10, 2) := by decide +kernel
theorem dX3_beAsAtFirst_3 : decode cX3_beAsAtFirst 3 = .ok (.putfield 33, 3) := by decide +kernel
theorem dX3_beAsAtFirst_6 : decode cX3_beAsAtFirst 6 = .ok (.aload_n 0, 1) := by decide +kernel
theorem dX3_beAsAtFirst_7 : decode cX3_beAsAtFirst 7 = .ok (.bipush 8, 2) := by decide +kernel
theorem dX3_beAsAtFirst_9 : decode cX3_beAsAtFirst 9 = .ok (.putfield 37, 3) := by decide +kernel
theorem dX3_beAsAtFirst_12 : decode cX3_beAsAtFirst 12 = .ok (.aload_n 0, 1) := by decide +kernel
theorem dX3_beAsAtFirst_13 : decode cX3_beAsAtFirst 13 = .ok (.iconst 1, 1) := by decide +kernel
theorem dX3_beAsAtFirst_14 : decode cX3_beAsAtFirst 14 = .ok (.putfield 40, 3) := by decide +kernel
theorem dX3_beAsAtFirst_17 : decode cX3_beAsAtFirst 17 = .ok (.aload_n 0, 1) := by decide +kernel
theorem dX3_beAsAtFirst_18 : decode cX3_beAsAtFirst 18 = .ok (.iconst 1, 1) := by decide +kernel
theorem dX3_beAsAtFirst_19 : decode cX3_beAsAtFirst 19 = .ok (.putfield 43, 3) := by decide +kernel
theorem dX3_beAsAtFirst_22 : decode cX3_beAsAtFirst 22 = .ok (.aload_n 0, 1) := by decide +kernel
theorem dX3_beAsAtFirst_23 : decode cX3_beAsAtFirst 23 = .ok (.iconst 0, 1) := by decide +kernel
theorem dX3_beAsAtFirst_24 : decode cX3_beAsAtFirst 24 = .ok (.putfield 46, 3) := by decide +kernel
theorem dX3_beAsAtFirst_27 : decode cX3_beAsAtFirst 27 = .ok (.aload_n 0, 1) := by decide +kernel
theorem dX3_beAsAtFirst_28 : decode cX3_beAsAtFirst 28 = .ok (.iconst 0, 1) := by decide +kernel
theorem dX3_beAsAtFirst_29 : decode cX3_beAsAtFirst 29 = .ok (.putfield 49, 3) := by decide +kernel
theorem dX3_beAsAtFirst_32 : decode cX3_beAsAtFirst 32 = .ok (.aload_n 0, 1) := by decide +kernel
theorem dX3_beAsAtFirst_33 : decode cX3_beAsAtFirst 33 = .ok (.getfield 9, 3) := by decide +kernel
theorem dX3_beAsAtFirst_36 : decode cX3_beAsAtFirst 36 = .ok (.iconst 2, 1) := by decide +kernel
theorem dX3_beAsAtFirst_37 : decode cX3_beAsAtFirst 37 = .ok (.invokestatic 52, 3) := by decide +kernel
theorem dX3_beAsAtFirst_40 : decode cX3_beAsAtFirst 40 = .ok (.return_, 1) := by decide +kernel
theorem dX3_copyFrom_0 : decode cX3_copyFrom 0 = .ok (.aload_n 0, 1) := by decide +kernel
theorem dX3_copyFrom_1 : decode cX3_copyFrom 1 = .ok (.aload_n 1, 1) := by decide +kernel
theorem dX3_copyFrom_2 : decode cX3_copyFrom 2 = .ok (.getfield 33, 3) := by decide +kernel
theorem dX3_copyFrom_5 : decode cX3_copyFrom 5 = .ok (.putfield 33, 3) := by decide +kernel
theorem dX3_copyFrom_8 : decode cX3_copyFrom 8 = .ok (.aload_n 0, 1) := by decide +kernel
theorem dX3_copyFrom_9 : decode cX3_copyFrom 9 = .ok (.aload_n 1, 1) := by decide +kernel
theorem dX3_copyFrom_10 : decode cX3_copyFrom 10 = .ok (.getfield 37, 3) := by decide +kernel
theorem dX3_copyFrom_13 : decode cX3_copyFrom 13 = .ok (.putfield 37, 3) := by decide +kernel
theorem dX3_copyFrom_16 : decode cX3_copyFrom 16 = .ok (.aload_n 0, 1) := by decide +kernel
theorem dX3_copyFrom_17 : decode cX3_copyFrom 17 = .ok (.aload_n 1, 1) := by decide +kernel
theorem dX3_copyFrom_18 : decode cX3_copyFrom 18 = .ok (.getfield 40, 3) := by decide +kernel
theorem dX3_copyFrom_21 : decode cX3_copyFrom 21 = .ok (.putfield 40, 3) := by decide +kernel
theorem dX3_copyFrom_24 : decode cX3_copyFrom 24 = .ok (.aload_n 0, 1) := by decide +kernel
theorem dX3_copyFrom_25 : decode cX3_copyFrom 25 = .ok (.aload_n 1, 1) := by decide +kernel
theorem dX3_copyFrom_26 : decode cX3_copyFrom 26 = .ok (.getfield 43, 3) := by decide +kernel
theorem dX3_copyFrom_29 : decode cX3_copyFrom 29 = .ok (.putfield 43, 3) := by decide +kernel
theorem dX3_copyFrom_32 : decode cX3_copyFrom 32 = .ok (.aload_n 0, 1) := by decide +kernel
theorem dX3_copyFrom_33 : decode cX3_copyFrom 33 = .ok (.aload_n 1, 1) := by decide +kernel
theorem dX3_copyFrom_34 : decode cX3_copyFrom 34 = .ok (.getfield 46, 3) := by decide +kernel
theorem dX3_copyFrom_37 : decode cX3_copyFrom 37 = .ok (.putfield 46, 3) := by decide +kernel
theorem dX3_copyFrom_40 : decode cX3_copyFrom 40 = .ok (.aload_n 0, 1) := by decide +kernel
theorem dX3_copyFrom_41 : decode cX3_copyFrom 41 = .ok (.aload_n 1, 1) := by decide +kernel
theorem dX3_copyFrom_42 : decode cX3_copyFrom 42 = .ok (.getfield 49, 3) := by decide +kernel
theorem dX3_copyFrom_45 : decode cX3_copyFrom 45 = .ok (.putfield 49, 3) := by decide +kernel
theorem dX3_copyFrom_48 : decode cX3_copyFrom 48 = .ok (.aload_n 1, 1) := by decide +kernel
theorem dX3_copyFrom_49 : decode cX3_copyFrom 49 = .ok (.getfield 9, 3) := by decide +kernel
theorem dX3_copyFrom_52 : decode cX3_copyFrom 52 = .ok (.iconst 0, 1) := by decide +kernel
theorem dX3_copyFrom_53 : decode cX3_copyFrom 53 = .ok (.aload_n 0, 1) := by decide +kernel
theorem dX3_copyFrom_54 : decode cX3_copyFrom 54 = .ok (.getfield 9, 3) := by decide +kernel
theorem dX3_copyFrom_57 : decode cX3_copyFrom 57 = .ok (.iconst 0, 1) := by decide +kernel
theorem dX3_copyFrom_58 : decode cX3_copyFrom 58 = .ok (.iconst 4, 1) := by decide +kernel
theorem dX3_copyFrom_59 : decode cX3_copyFrom 59 = .ok (.invokestatic 58, 3) := by decide +kernel
theorem dX3_copyFrom_62 : decode cX3_copyFrom 62 = .ok (.aload_n 1, 1) := by decide +kernel
theorem dX3_copyFrom_63 : decode cX3_copyFrom 63 = .ok (.getfield 15, 3) := by decide +kernel
theorem dX3_copyFrom_66 : decode cX3_copyFrom 66 = .ok (.iconst 0, 1) := by decide +kernel
theorem dX3_copyFrom_67 : decode cX3_copyFrom 67 = .ok (.aload_n 0, 1) := by decide +kernel
theorem dX3_copyFrom_68 : decode cX3_copyFrom 68 = .ok (.getfield 15, 3) := by decide +kernel
theorem dX3_copyFrom_71 : decode cX3_copyFrom 71 = .ok (.iconst 0, 1) := by decide +kernel
theorem dX3_copyFrom_72 : decode cX3_copyFrom 72 = .ok (.iconst 4, 1) := by decide +kernel
theorem dX3_copyFrom_73 : decode cX3_copyFrom 73 = .ok (.invokestatic 58, 3) := by decide +kernel
theorem dX3_copyFrom_76 : decode cX3_copyFrom 76 = .ok (.aload_n 1, 1) := by decide +kernel
theorem dX3_copyFrom_77 : decode cX3_copyFrom 77 = .ok (.getfield 18, 3) := by decide +kernel
theorem dX3_copyFrom_80 : decode cX3_copyFrom 80 = .ok (.iconst 0, 1) := by decide +kernel
theorem dX3_copyFrom_81 : decode cX3_copyFrom 81 = .ok (.aload_n 0, 1) := by decide +kernel
theorem dX3_copyFrom_82 : decode cX3_copyFrom 82 = .ok (.getfield 18, 3) := by decide +kernel
theorem dX3_copyFrom_85 : decode cX3_copyFrom 85 = .ok (.iconst 0, 1) := by decide +kernel
theorem dX3_copyFrom_86 : decode cX3_copyFrom 86 = .ok (.iconst 4, 1) := by decide +kernel
theorem dX3_copyFrom_87 : decode cX3_copyFrom 87 = .ok (.invokestatic 58, 3) := by decide +kernel
theorem dX3_copyFrom_90 : decode cX3_copyFrom 90 = .ok (.aload_n 1, 1) := by decide +kernel
theorem dX3_copyFrom_91 : decode cX3_copyFrom 91 = .ok (.getfield 21, 3) := by decide +kernel
theorem dX3_copyFrom_94 : decode cX3_copyFrom 94 = .ok (.iconst 0, 1) := by decide +kernel
theorem dX3_copyFrom_95 : decode cX3_copyFrom 95 = .ok (.aload_n 0, 1) := by decide +kernel
theorem dX3_copyFrom_96 : decode cX3_copyFrom 96 = .ok (.getfield 21, 3) := by decide +kernel
theorem dX3_copyFrom_99 : decode cX3_copyFrom 99 = .ok (.iconst 0, 1) := by decide +kernel
theorem dX3_copyFrom_100 : decode cX3_copyFrom 100 = .ok (.iconst 3, 1) := by decide +kernel
theorem dX3_copyFrom_101 : decode cX3_copyFrom 101 = .ok (.invokestatic 58, 3) := by decide +kernel
theorem dX3_copyFrom_104 : decode cX3_copyFrom 104 = .ok (.aload_n 1, 1) := by decide +kernel
theorem dX3_copyFrom_105 : decode cX3_copyFrom 105 = .ok (.getfield 24, 3) := by decide +kernel
theorem dX3_copyFrom_108 : decode cX3_copyFrom 108 = .ok (.iconst 0, 1) := by decide +kernel
theorem dX3_copyFrom_109 : decode cX3_copyFrom 109 = .ok (.aload_n 0, 1) := by decide +kernel
theorem dX3_copyFrom_110 : decode cX3_copyFrom 110 = .ok (.getfield 24, 3) := by decide +kernel
theorem dX3_copyFrom_113 : decode cX3_copyFrom 113 = .ok (.iconst 0, 1) := by decide +kernel
theorem dX3_copyFrom_114 : decode cX3_copyFrom 114 = .ok (.iconst 3, 1) := by decide +kernel
theorem dX3_copyFrom_115 : decode cX3_copyFrom 115 = .ok (.invokestatic 58, 3) := by decide +kernel
theorem dX3_copyFrom_118 : decode cX3_copyFrom 118 = .ok (.aload_n 1, 1) := by decide +kernel
theorem dX3_copyFrom_119 : decode cX3_copyFrom 119 = .ok (.getfield 27, 3) := by decide +kernel
theorem dX3_copyFrom_122 : decode cX3_copyFrom 122 = .ok (.iconst 0, 1) := by decide +kernel
theorem dX3_copyFrom_123 : decode cX3_copyFrom 123 = .ok (.aload_n 0, 1) := by decide +kernel
theorem dX3_copyFrom_124 : decode cX3_copyFrom 124 = .ok (.getfield 27, 3) := by decide +kernel
theorem dX3_copyFrom_127 : decode cX3_copyFrom 127 = .ok (.iconst 0, 1) := by decide +kernel
theorem dX3_copyFrom_128 : decode cX3_copyFrom 128 = .ok (.iconst 3, 1) := by decide +kernel
theorem dX3_copyFrom_129 : decode cX3_copyFrom 129 = .ok (.invokestatic 58, 3) := by decide +kernel
theorem dX3_copyFrom_132 : decode cX3_copyFrom 132 = .ok (.return_, 1) := by decide +kernel
theorem dX3_hasSeat_0 : decode cX3_hasSeat 0 = .ok (.iload_n 1, 1) := by decide +kernel
theorem dX3_hasSeat_1 : decode cX3_hasSeat 1 = .ok (.ifCond .lt 15, 3) := by decide +kernel
theorem dX3_hasSeat_4 : decode cX3_hasSeat 4 = .ok (.iload_n 1, 1) := by decide +kernel
theorem dX3_hasSeat_5 : decode cX3_hasSeat 5 = .ok (.aload_n 0, 1) := by decide +kernel
theorem dX3_hasSeat_6 : decode cX3_hasSeat 6 = .ok (.getfield 46, 3) := by decide +kernel
theorem dX3_hasSeat_9 : decode cX3_hasSeat 9 = .ok (.if_icmp .ge 7, 3) := by decide +kernel
theorem dX3_hasSeat_12 : decode cX3_hasSeat 12 = .ok (.iconst 1, 1) := by decide +kernel
theorem dX3_hasSeat_13 : decode cX3_hasSeat 13 = .ok (.goto 4, 3) := by decide +kernel
theorem dX3_hasSeat_16 : decode cX3_hasSeat 16 = .ok (.iconst 0, 1) := by decide +kernel
theorem dX3_hasSeat_17 : decode cX3_hasSeat 17 = .ok (.ireturn, 1) := by decide +kernel
theorem dX3_hasCurtain_0 : decode cX3_hasCurtain 0 = .ok (.iload_n 1, 1) := by decide +kernel
theorem dX3_hasCurtain_1 : decode cX3_hasCurtain 1 = .ok (.ifCond .lt 15, 3) := by decide +kernel
theorem dX3_hasCurtain_4 : decode cX3_hasCurtain 4 = .ok (.iload_n 1, 1) := by decide +kernel
theorem dX3_hasCurtain_5 : decode cX3_hasCurtain 5 = .ok (.aload_n 0, 1) := by decide +kernel
theorem dX3_hasCurtain_6 : decode cX3_hasCurtain 6 = .ok (.getfield 49, 3) := by decide +kernel
theorem dX3_hasCurtain_9 : decode cX3_hasCurtain 9 = .ok (.if_icmp .ge 7, 3) := by decide +kernel
theorem dX3_hasCurtain_12 : decode cX3_hasCurtain 12 = .ok (.iconst 1, 1) := by decide +kernel
theorem dX3_hasCurtain_13 : decode cX3_hasCurtain 13 = .ok (.goto 4, 3) := by decide +kernel
theorem dX3_hasCurtain_16 : decode cX3_hasCurtain 16 = .ok (.iconst 0, 1) := by decide +kernel
theorem dX3_hasCurtain_17 : decode cX3_hasCurtain 17 = .ok (.ireturn, 1) := by decide +kernel
theorem dX3_sourceCode_0 : decode cX3_sourceCode 0 = .ok (.bipush 100, 2) := by decide +kernel
theorem dX3_sourceCode_2 : decode cX3_sourceCode 2 = .ok (.aload_n 0, 1) := by decide +kernel
theorem dX3_sourceCode_3 : decode cX3_sourceCode 3 = .ok (.getfield 40, 3) := by decide +kernel
theorem dX3_sourceCode_6 : decode cX3_sourceCode 6 = .ok (.imul, 1) := by decide +kernel
theorem dX3_sourceCode_7 : decode cX3_sourceCode 7 = .ok (.aload_n 0, 1) := by decide +kernel
theorem dX3_sourceCode_8 : decode cX3_sourceCode 8 = .ok (.getfield 43, 3) := by decide +kernel
theorem dX3_sourceCode_11 : decode cX3_sourceCode 11 = .ok (.iadd, 1) := by decide +kernel
theorem dX3_sourceCode_12 : decode cX3_sourceCode 12 = .ok (.ireturn, 1) := by decide +kernel
set_option maxRecDepth 20000 in
theorem ggX3_imageX_X5_mirrored : GoodIn wsX3_imageX wsX5_mirrored := goodIn_r _ [5] (by decide +kernel) (by decide +kernel)
set_option maxRecDepth 20000 in
theorem gX3_imageX_X5_mirrored_n64 : GoodIn wsX3_imageX (wsX5_mirrored) := ggX3_imageX_X5_mirrored
theorem dX3_imageX_0 : decode cX3_imageX 0 = .ok (.iload_n 1, 1) := by decide +kernel
theorem dX3_imageX_1 : decode cX3_imageX 1 = .ok (.aload_n 0, 1) := by decide +kernel
theorem dX3_imageX_2 : decode cX3_imageX 2 = .ok (.getfield 33, 3) := by decide +kernel
theorem dX3_imageX_5 : decode cX3_imageX 5 = .ok (.aload_n 0, 1) := by decide +kernel
theorem dX3_imageX_6 : decode cX3_imageX 6 = .ok (.getfield 40, 3) := by decide +kernel
theorem dX3_imageX_9 : decode cX3_imageX 9 = .ok (.invokestatic 64, 3) := by decide +kernel
theorem dX3_imageX_12 : decode cX3_imageX 12 = .ok (.ireturn, 1) := by decide +kernel
set_option maxRecDepth 20000 in
theorem ggX3_imageY_X5_mirrored : GoodIn wsX3_imageY wsX5_mirrored := goodIn_r _ [5] (by decide +kernel) (by decide +kernel)
set_option maxRecDepth 20000 in
theorem gX3_imageY_X5_mirrored_n64 : GoodIn wsX3_imageY (wsX5_mirrored) := ggX3_imageY_X5_mirrored
theorem dX3_imageY_0 : decode cX3_imageY 0 = .ok (.iload_n 1, 1) := by decide +kernel
theorem dX3_imageY_1 : decode cX3_imageY 1 = .ok (.aload_n 0, 1) := by decide +kernel
theorem dX3_imageY_2 : decode cX3_imageY 2 = .ok (.getfield 37, 3) := by decide +kernel
theorem dX3_imageY_5 : decode cX3_imageY 5 = .ok (.aload_n 0, 1) := by decide +kernel
theorem dX3_imageY_6 : decode cX3_imageY 6 = .ok (.getfield 43, 3) := by decide +kernel
theorem dX3_imageY_9 : decode cX3_imageY 9 = .ok (.invokestatic 64, 3) := by decide +kernel
theorem dX3_imageY_12 : decode cX3_imageY 12 = .ok (.ireturn, 1) := by decide +kernel
set_option maxRecDepth 20000 in
theorem ggX3_softPasses_X5_passes : GoodIn wsX3_softPasses wsX5_passes := goodIn_r _ [4, 5, 6, 3, 7] (by decide +kernel) (by decide +kernel)
set_option maxRecDepth 20000 in
theorem gX3_softPasses_X5_passes_n68 : GoodIn wsX3_softPasses (wsX5_passes) := ggX3_softPasses_X5_passes
theorem dX3_softPasses_0 : decode cX3_softPasses 0 = .ok (.iconst 0, 1) := by decide +kernel
theorem dX3_softPasses_1 : decode cX3_softPasses 1 = .ok (.istore_n 3, 1) := by decide +kernel
theorem dX3_softPasses_2 : decode cX3_softPasses 2 = .ok (.iconst 0, 1) := by decide +kernel
theorem dX3_softPasses_3 : decode cX3_softPasses 3 = .ok (.istore 4, 2) := by decide +kernel
theorem dX3_softPasses_5 : decode cX3_softPasses 5 = .ok (.iload 4, 2) := by decide +kernel
theorem dX3_softPasses_7 : decode cX3_softPasses 7 = .ok (.iconst 3, 1) := by decide +kernel
theorem dX3_softPasses_8 : decode cX3_softPasses 8 = .ok (.if_icmp .gt 29, 3) := by decide +kernel
theorem dX3_softPasses_11 : decode cX3_softPasses 11 = .ok (.aload_n 0, 1) := by decide +kernel
theorem dX3_softPasses_12 : decode cX3_softPasses 12 = .ok (.getfield 9, 3) := by decide +kernel
theorem dX3_softPasses_15 : decode cX3_softPasses 15 = .ok (.iload 4, 2) := by decide +kernel
theorem dX3_softPasses_17 : decode cX3_softPasses 17 = .ok (.iaload, 1) := by decide +kernel
theorem dX3_softPasses_18 : decode cX3_softPasses 18 = .ok (.ifCond .le 13, 3) := by decide +kernel
theorem dX3_softPasses_21 : decode cX3_softPasses 21 = .ok (.iload_n 3, 1) := by decide +kernel
theorem dX3_softPasses_22 : decode cX3_softPasses 22 = .ok (.iload 4, 2) := by decide +kernel
theorem dX3_softPasses_24 : decode cX3_softPasses 24 = .ok (.iload_n 1, 1) := by decide +kernel
theorem dX3_softPasses_25 : decode cX3_softPasses 25 = .ok (.iload_n 2, 1) := by decide +kernel
theorem dX3_softPasses_26 : decode cX3_softPasses 26 = .ok (.invokestatic 68, 3) := by decide +kernel
theorem dX3_softPasses_29 : decode cX3_softPasses 29 = .ok (.iadd, 1) := by decide +kernel
theorem dX3_softPasses_30 : decode cX3_softPasses 30 = .ok (.istore_n 3, 1) := by decide +kernel
theorem dX3_softPasses_31 : decode cX3_softPasses 31 = .ok (.iinc 4 1, 3) := by decide +kernel
theorem dX3_softPasses_34 : decode cX3_softPasses 34 = .ok (.goto (-29), 3) := by decide +kernel
theorem dX3_softPasses_37 : decode cX3_softPasses 37 = .ok (.iload_n 3, 1) := by decide +kernel
theorem dX3_softPasses_38 : decode cX3_softPasses 38 = .ok (.ireturn, 1) := by decide +kernel
set_option maxRecDepth 20000 in
theorem ggX3_waySquared_X3_imageX : GoodIn wsX3_waySquared wsX3_imageX := goodIn_r _ [5, 6, 7, 8, 9, 10, 19, 20, 21, 22, 23, 24, 25, 26, 27, 28, 29, 30] (by decide +kernel) (by decide +kernel)
set_option maxRecDepth 20000 in
theorem gX3_waySquared_X3_imageX : GoodIn wsX3_waySquared (wsV RX3 71 RX3 yX3_imageX wsX3_imageX) := goodIn_app (goodIn_of _ (by decide +kernel)) ggX3_waySquared_X3_imageX
set_option maxRecDepth 20000 in
theorem ggX3_waySquared_X3_imageY : GoodIn wsX3_waySquared wsX3_imageY := goodIn_r _ [14, 15, 16, 8, 9, 10, 19, 20, 21, 22, 23, 24, 25, 26, 27, 28, 29, 30] (by decide +kernel) (by decide +kernel)
set_option maxRecDepth 20000 in
theorem gX3_waySquared_X3_imageY : GoodIn wsX3_waySquared (wsV RX3 75 RX3 yX3_imageY wsX3_imageY) := goodIn_app (goodIn_of _ (by decide +kernel)) ggX3_waySquared_X3_imageY
set_option maxRecDepth 20000 in
theorem ggX3_waySquared_X5_squares : GoodIn wsX3_waySquared wsX5_squares := goodIn_r _ [18] (by decide +kernel) (by decide +kernel)
set_option maxRecDepth 20000 in
theorem gX3_waySquared_X5_squares_n78 : GoodIn wsX3_waySquared (wsX5_squares) := ggX3_waySquared_X5_squares
theorem dX3_waySquared_0 : decode cX3_waySquared 0 = .ok (.aload_n 0, 1) := by decide +kernel
theorem dX3_waySquared_1 : decode cX3_waySquared 1 = .ok (.iload_n 1, 1) := by decide +kernel
theorem dX3_waySquared_2 : decode cX3_waySquared 2 = .ok (.invokevirtual 71, 3) := by decide +kernel
theorem dX3_waySquared_5 : decode cX3_waySquared 5 = .ok (.iload_n 3, 1) := by decide +kernel
theorem dX3_waySquared_6 : decode cX3_waySquared 6 = .ok (.isub, 1) := by decide +kernel
theorem dX3_waySquared_7 : decode cX3_waySquared 7 = .ok (.aload_n 0, 1) := by decide +kernel
theorem dX3_waySquared_8 : decode cX3_waySquared 8 = .ok (.iload_n 2, 1) := by decide +kernel
theorem dX3_waySquared_9 : decode cX3_waySquared 9 = .ok (.invokevirtual 75, 3) := by decide +kernel
theorem dX3_waySquared_12 : decode cX3_waySquared 12 = .ok (.iload 4, 2) := by decide +kernel
theorem dX3_waySquared_14 : decode cX3_waySquared 14 = .ok (.isub, 1) := by decide +kernel
theorem dX3_waySquared_15 : decode cX3_waySquared 15 = .ok (.invokestatic 78, 3) := by decide +kernel
theorem dX3_waySquared_18 : decode cX3_waySquared 18 = .ok (.ireturn, 1) := by decide +kernel
set_option maxRecDepth 20000 in
theorem ggX3_isHidden_X3_imageX : GoodIn wsX3_isHidden wsX3_imageX := goodIn_r _ [18, 2, 19, 20, 21, 22, 39, 40, 41, 42, 43, 44, 45, 46, 47, 48, 49, 50] (by decide +kernel) (by decide +kernel)
set_option maxRecDepth 20000 in
theorem gX3_isHidden_X3_imageX : GoodIn wsX3_isHidden (wsV RX3 71 RX3 yX3_imageX wsX3_imageX) := goodIn_app (goodIn_of _ (by decide +kernel)) ggX3_isHidden_X3_imageX
set_option maxRecDepth 20000 in
theorem ggX3_isHidden_X3_imageY : GoodIn wsX3_isHidden wsX3_imageY := goodIn_r _ [26, 27, 28, 20, 21, 22, 39, 40, 41, 42, 43, 44, 45, 46, 47, 48, 49, 50] (by decide +kernel) (by decide +kernel)
set_option maxRecDepth 20000 in
theorem gX3_isHidden_X3_imageY : GoodIn wsX3_isHidden (wsV RX3 75 RX3 yX3_imageY wsX3_imageY) := goodIn_app (goodIn_of _ (by decide +kernel)) ggX3_isHidden_X3_imageY
set_option maxRecDepth 20000 in
theorem ggX3_isHidden_X5_mirrored : GoodIn wsX3_isHidden wsX5_mirrored := goodIn_r _ [22] (by decide +kernel) (by decide +kernel)
set_option maxRecDepth 20000 in
theorem gX3_isHidden_X5_mirrored_n64 : GoodIn wsX3_isHidden (wsX5_mirrored) := ggX3_isHidden_X5_mirrored
set_option maxRecDepth 20000 in
theorem ggX3_isHidden_X3_curtainMeets : GoodIn wsX3_isHidden wsX3_curtainMeets := goodIn_r _ [32, 27, 33, 34, 35, 36, 37, 38, 39, 40, 41, 42, 43, 44, 45, 46, 47, 48, 49, 50] (by decide +kernel) (by decide +kernel)
set_option maxRecDepth 20000 in
theorem gX3_isHidden_X3_curtainMeets : GoodIn wsX3_isHidden (wsV RX3 93 RX3 yX3_curtainMeets wsX3_curtainMeets) := goodIn_app (goodIn_of _ (by decide +kernel)) ggX3_isHidden_X3_curtainMeets
theorem dX3_isHidden_0 : decode cX3_isHidden 0 = .ok (.aload_n 0, 1) := by decide +kernel
theorem dX3_isHidden_1 : decode cX3_isHidden 1 = .ok (.iload_n 1, 1) := by decide +kernel
theorem dX3_isHidden_2 : decode cX3_isHidden 2 = .ok (.invokevirtual 71, 3) := by decide +kernel
theorem dX3_isHidden_5 : decode cX3_isHidden 5 = .ok (.istore 5, 2) := by decide +kernel
theorem dX3_isHidden_7 : decode cX3_isHidden 7 = .ok (.aload_n 0, 1) := by decide +kernel
theorem dX3_isHidden_8 : decode cX3_isHidden 8 = .ok (.iload_n 2, 1) := by decide +kernel
theorem dX3_isHidden_9 : decode cX3_isHidden 9 = .ok (.invokevirtual 75, 3) := by decide +kernel
theorem dX3_isHidden_12 : decode cX3_isHidden 12 = .ok (.istore 6, 2) := by decide +kernel
theorem dX3_isHidden_14 : decode cX3_isHidden 14 = .ok (.iconst 0, 1) := by decide +kernel
theorem dX3_isHidden_15 : decode cX3_isHidden 15 = .ok (.istore 7, 2) := by decide +kernel
theorem dX3_isHidden_17 : decode cX3_isHidden 17 = .ok (.iload 7, 2) := by decide +kernel
theorem dX3_isHidden_19 : decode cX3_isHidden 19 = .ok (.aload_n 0, 1) := by decide +kernel
theorem dX3_isHidden_20 : decode cX3_isHidden 20 = .ok (.getfield 49, 3) := by decide +kernel
theorem dX3_isHidden_23 : decode cX3_isHidden 23 = .ok (.if_icmp .ge 123, 3) := by decide +kernel
theorem dX3_isHidden_26 : decode cX3_isHidden 26 = .ok (.bipush (-3), 2) := by decide +kernel
theorem dX3_isHidden_28 : decode cX3_isHidden 28 = .ok (.istore 8, 2) := by decide +kernel
theorem dX3_isHidden_30 : decode cX3_isHidden 30 = .ok (.iload 8, 2) := by decide +kernel
theorem dX3_isHidden_32 : decode cX3_isHidden 32 = .ok (.iconst 3, 1) := by decide +kernel
theorem dX3_isHidden_33 : decode cX3_isHidden 33 = .ok (.if_icmp .gt 107, 3) := by decide +kernel
theorem dX3_isHidden_36 : decode cX3_isHidden 36 = .ok (.iload 8, 2) := by decide +kernel
theorem dX3_isHidden_38 : decode cX3_isHidden 38 = .ok (.aload_n 0, 1) := by decide +kernel
theorem dX3_isHidden_39 : decode cX3_isHidden 39 = .ok (.getfield 33, 3) := by decide +kernel
theorem dX3_isHidden_42 : decode cX3_isHidden 42 = .ok (.aload_n 0, 1) := by decide +kernel
theorem dX3_isHidden_43 : decode cX3_isHidden 43 = .ok (.getfield 21, 3) := by decide +kernel
theorem dX3_isHidden_46 : decode cX3_isHidden 46 = .ok (.iload 7, 2) := by decide +kernel
theorem dX3_isHidden_48 : decode cX3_isHidden 48 = .ok (.iaload, 1) := by decide +kernel
theorem dX3_isHidden_49 : decode cX3_isHidden 49 = .ok (.invokestatic 64, 3) := by decide +kernel
theorem dX3_isHidden_52 : decode cX3_isHidden 52 = .ok (.istore 9, 2) := by decide +kernel
theorem dX3_isHidden_54 : decode cX3_isHidden 54 = .ok (.iload 9, 2) := by decide +kernel
theorem dX3_isHidden_56 : decode cX3_isHidden 56 = .ok (.iload 5, 2) := by decide +kernel
theorem dX3_isHidden_58 : decode cX3_isHidden 58 = .ok (.isub, 1) := by decide +kernel
theorem dX3_isHidden_59 : decode cX3_isHidden 59 = .ok (.invokestatic 82, 3) := by decide +kernel
theorem dX3_isHidden_62 : decode cX3_isHidden 62 = .ok (.istore 10, 2) := by decide +kernel
theorem dX3_isHidden_64 : decode cX3_isHidden 64 = .ok (.iload_n 3, 1) := by decide +kernel
theorem dX3_isHidden_65 : decode cX3_isHidden 65 = .ok (.iload 5, 2) := by decide +kernel
theorem dX3_isHidden_67 : decode cX3_isHidden 67 = .ok (.isub, 1) := by decide +kernel
theorem dX3_isHidden_68 : decode cX3_isHidden 68 = .ok (.invokestatic 82, 3) := by decide +kernel
theorem dX3_isHidden_71 : decode cX3_isHidden 71 = .ok (.istore 11, 2) := by decide +kernel
theorem dX3_isHidden_73 : decode cX3_isHidden 73 = .ok (.iload 9, 2) := by decide +kernel
theorem dX3_isHidden_75 : decode cX3_isHidden 75 = .ok (.iload 5, 2) := by decide +kernel
theorem dX3_isHidden_77 : decode cX3_isHidden 77 = .ok (.iload_n 3, 1) := by decide +kernel
theorem dX3_isHidden_78 : decode cX3_isHidden 78 = .ok (.invokestatic 87, 3) := by decide +kernel
theorem dX3_isHidden_81 : decode cX3_isHidden 81 = .ok (.if_icmp .le 18, 3) := by decide +kernel
theorem dX3_isHidden_84 : decode cX3_isHidden 84 = .ok (.iload 9, 2) := by decide +kernel
theorem dX3_isHidden_86 : decode cX3_isHidden 86 = .ok (.iload 5, 2) := by decide +kernel
theorem dX3_isHidden_88 : decode cX3_isHidden 88 = .ok (.iload_n 3, 1) := by decide +kernel
theorem dX3_isHidden_89 : decode cX3_isHidden 89 = .ok (.invokestatic 90, 3) := by decide +kernel
theorem dX3_isHidden_92 : decode cX3_isHidden 92 = .ok (.if_icmp .ge 7, 3) := by decide +kernel
theorem dX3_isHidden_95 : decode cX3_isHidden 95 = .ok (.iconst 1, 1) := by decide +kernel
theorem dX3_isHidden_96 : decode cX3_isHidden 96 = .ok (.goto 4, 3) := by decide +kernel
theorem dX3_isHidden_99 : decode cX3_isHidden 99 = .ok (.iconst 0, 1) := by decide +kernel
theorem dX3_isHidden_100 : decode cX3_isHidden 100 = .ok (.istore 12, 2) := by decide +kernel
theorem dX3_isHidden_102 : decode cX3_isHidden 102 = .ok (.iload 12, 2) := by decide +kernel
theorem dX3_isHidden_104 : decode cX3_isHidden 104 = .ok (.ifCond .eq 30, 3) := by decide +kernel
theorem dX3_isHidden_107 : decode cX3_isHidden 107 = .ok (.aload_n 0, 1) := by decide +kernel
theorem dX3_isHidden_108 : decode cX3_isHidden 108 = .ok (.iload 7, 2) := by decide +kernel
theorem dX3_isHidden_110 : decode cX3_isHidden 110 = .ok (.iload 6, 2) := by decide +kernel
theorem dX3_isHidden_112 : decode cX3_isHidden 112 = .ok (.iload 11, 2) := by decide +kernel
theorem dX3_isHidden_114 : decode cX3_isHidden 114 = .ok (.imul, 1) := by decide +kernel
theorem dX3_isHidden_115 : decode cX3_isHidden 115 = .ok (.iload 4, 2) := by decide +kernel
theorem dX3_isHidden_117 : decode cX3_isHidden 117 = .ok (.iload 6, 2) := by decide +kernel
theorem dX3_isHidden_119 : decode cX3_isHidden 119 = .ok (.isub, 1) := by decide +kernel
theorem dX3_isHidden_120 : decode cX3_isHidden 120 = .ok (.iload 10, 2) := by decide +kernel
theorem dX3_isHidden_122 : decode cX3_isHidden 122 = .ok (.imul, 1) := by decide +kernel
theorem dX3_isHidden_123 : decode cX3_isHidden 123 = .ok (.iadd, 1) := by decide +kernel
theorem dX3_isHidden_124 : decode cX3_isHidden 124 = .ok (.iload 11, 2) := by decide +kernel
theorem dX3_isHidden_126 : decode cX3_isHidden 126 = .ok (.invokevirtual 93, 3) := by decide +kernel
theorem dX3_isHidden_129 : decode cX3_isHidden 129 = .ok (.ifCond .eq 5, 3) := by decide +kernel
theorem dX3_isHidden_132 : decode cX3_isHidden 132 = .ok (.iconst 1, 1) := by decide +kernel
theorem dX3_isHidden_133 : decode cX3_isHidden 133 = .ok (.ireturn, 1) := by decide +kernel
theorem dX3_isHidden_134 : decode cX3_isHidden 134 = .ok (.iinc 8 1, 3) := by decide +kernel
theorem dX3_isHidden_137 : decode cX3_isHidden 137 = .ok (.goto (-107), 3) := by decide +kernel
theorem dX3_isHidden_140 : decode cX3_isHidden 140 = .ok (.iinc 7 1, 3) := by decide +kernel
theorem dX3_isHidden_143 : decode cX3_isHidden 143 = .ok (.goto (-126), 3) := by decide +kernel
theorem dX3_isHidden_146 : decode cX3_isHidden 146 = .ok (.iconst 0, 1) := by decide +kernel
theorem dX3_isHidden_147 : decode cX3_isHidden 147 = .ok (.ireturn, 1) := by decide +kernel
set_option maxRecDepth 20000 in
theorem ggX3_curtainMeets_J9_floorDiv_7cf53 : GoodIn wsX3_curtainMeets wsJ9_floorDiv_7cf53 := goodIn_r _ [7] (by decide +kernel) (by decide +kernel)
