theorem dX5_undo_0 : decode cX5_undo 0 = .ok (.aload_n 0, 1) := by decide +kernel
theorem dX5_undo_1 : decode cX5_undo 1 = .ok (.getfield 37, 3) := by decide +kernel
theorem dX5_undo_4 : decode cX5_undo 4 = .ok (.getfield 75, 3) := by decide +kernel
theorem dX5_undo_7 : decode cX5_undo 7 = .ok (.ifCond .ne 6, 3) := by decide +kernel
theorem dX5_undo_10 : decode cX5_undo 10 = .ok (.bipush (-2), 2) := by decide +kernel
theorem dX5_undo_12 : decode cX5_undo 12 = .ok (.ireturn, 1) := by decide +kernel
theorem dX5_undo_13 : decode cX5_undo 13 = .ok (.aload_n 0, 1) := by decide +kernel
theorem dX5_undo_14 : decode cX5_undo 14 = .ok (.getfield 37, 3) := by decide +kernel
theorem dX5_undo_17 : decode cX5_undo 17 = .ok (.aload_n 0, 1) := by decide +kernel
theorem dX5_undo_18 : decode cX5_undo 18 = .ok (.getfield 10, 3) := by decide +kernel
theorem dX5_undo_21 : decode cX5_undo 21 = .ok (.invokevirtual 127, 3) := by decide +kernel
theorem dX5_undo_24 : decode cX5_undo 24 = .ok (.aload_n 0, 1) := by decide +kernel
theorem dX5_undo_25 : decode cX5_undo 25 = .ok (.getfield 37, 3) := by decide +kernel
theorem dX5_undo_28 : decode cX5_undo 28 = .ok (.getfield 75, 3) := by decide +kernel
theorem dX5_undo_31 : decode cX5_undo 31 = .ok (.ireturn, 1) := by decide +kernel
set_option maxRecDepth 20000 in
theorem ggX5_mirror_X5_isImage : GoodIn wsX5_mirror wsX5_isImage := goodIn_r _ [10, 3, 4, 5, 6, 11, 12, 9, 13] (by decide +kernel) (by decide +kernel)
set_option maxRecDepth 20000 in
theorem gX5_mirror_X5_isImage : GoodIn wsX5_mirror (va_wsS RX5 130 yX5_isImage wsX5_isImage) := goodIn_app (goodIn_of _ (by decide +kernel)) ggX5_mirror_X5_isImage
set_option maxRecDepth 20000 in
theorem ggX5_mirror_X3_imageX : GoodIn wsX5_mirror wsX3_imageX := goodIn_r _ [18, 19, 20, 21, 9, 22, 47, 48, 49, 50, 51, 52, 53, 54, 55, 56, 57, 58] (by decide +kernel) (by decide +kernel)
set_option maxRecDepth 20000 in
theorem gX5_mirror_X3_imageX : GoodIn wsX5_mirror (wsV RX5 135 RX3 yX3_imageX wsX3_imageX) := goodIn_app (goodIn_of _ (by decide +kernel)) ggX5_mirror_X3_imageX
set_option maxRecDepth 20000 in
theorem ggX5_mirror_X3_imageY : GoodIn wsX5_mirror wsX3_imageY := goodIn_r _ [26, 27, 28, 21, 9, 22, 47, 48, 49, 50, 51, 52, 53, 54, 55, 56, 57, 58] (by decide +kernel) (by decide +kernel)
set_option maxRecDepth 20000 in
theorem gX5_mirror_X3_imageY : GoodIn wsX5_mirror (wsV RX5 139 RX3 yX3_imageY wsX3_imageY) := goodIn_app (goodIn_of _ (by decide +kernel)) ggX5_mirror_X3_imageY
set_option maxRecDepth 20000 in
theorem ggX5_mirror_X3_softPasses : GoodIn wsX5_mirror wsX3_softPasses := goodIn_r _ [32, 33, 34, 9, 35, 36, 37, 38, 47, 48, 49, 50, 51, 52, 53, 54, 55, 56, 57, 58] (by decide +kernel) (by decide +kernel)
set_option maxRecDepth 20000 in
theorem gX5_mirror_X3_softPasses : GoodIn wsX5_mirror (wsV RX5 147 RX3 yX3_softPasses wsX3_softPasses) := goodIn_app (goodIn_of _ (by decide +kernel)) ggX5_mirror_X3_softPasses
theorem dX5_mirror_0 : decode cX5_mirror 0 = .ok (.iload_n 1, 1) := by decide +kernel
theorem dX5_mirror_1 : decode cX5_mirror 1 = .ok (.iload_n 2, 1) := by decide +kernel
theorem dX5_mirror_2 : decode cX5_mirror 2 = .ok (.invokestatic 130, 3) := by decide +kernel
theorem dX5_mirror_5 : decode cX5_mirror 5 = .ok (.ifCond .ne 6, 3) := by decide +kernel
theorem dX5_mirror_8 : decode cX5_mirror 8 = .ok (.ldc 134, 2) := by decide +kernel
theorem dX5_mirror_10 : decode cX5_mirror 10 = .ok (.ireturn, 1) := by decide +kernel
theorem dX5_mirror_11 : decode cX5_mirror 11 = .ok (.iload_n 3, 1) := by decide +kernel
theorem dX5_mirror_12 : decode cX5_mirror 12 = .ok (.tableswitch 70 0 3 #[32, 41, 50, 60], 32) := by decide +kernel
theorem dX5_mirror_44 : decode cX5_mirror 44 = .ok (.aload_n 0, 1) := by decide +kernel
theorem dX5_mirror_45 : decode cX5_mirror 45 = .ok (.getfield 10, 3) := by decide +kernel
theorem dX5_mirror_48 : decode cX5_mirror 48 = .ok (.iload_n 1, 1) := by decide +kernel
theorem dX5_mirror_49 : decode cX5_mirror 49 = .ok (.invokevirtual 135, 3) := by decide +kernel
theorem dX5_mirror_52 : decode cX5_mirror 52 = .ok (.ireturn, 1) := by decide +kernel
theorem dX5_mirror_53 : decode cX5_mirror 53 = .ok (.aload_n 0, 1) := by decide +kernel
theorem dX5_mirror_54 : decode cX5_mirror 54 = .ok (.getfield 10, 3) := by decide +kernel
theorem dX5_mirror_57 : decode cX5_mirror 57 = .ok (.iload_n 2, 1) := by decide +kernel
theorem dX5_mirror_58 : decode cX5_mirror 58 = .ok (.invokevirtual 139, 3) := by decide +kernel
theorem dX5_mirror_61 : decode cX5_mirror 61 = .ok (.ireturn, 1) := by decide +kernel
theorem dX5_mirror_62 : decode cX5_mirror 62 = .ok (.iload_n 1, 1) := by decide +kernel
theorem dX5_mirror_63 : decode cX5_mirror 63 = .ok (.invokestatic 142, 3) := by decide +kernel
theorem dX5_mirror_66 : decode cX5_mirror 66 = .ok (.iload_n 2, 1) := by decide +kernel
theorem dX5_mirror_67 : decode cX5_mirror 67 = .ok (.invokestatic 142, 3) := by decide +kernel
theorem dX5_mirror_70 : decode cX5_mirror 70 = .ok (.iadd, 1) := by decide +kernel
theorem dX5_mirror_71 : decode cX5_mirror 71 = .ok (.ireturn, 1) := by decide +kernel
theorem dX5_mirror_72 : decode cX5_mirror 72 = .ok (.aload_n 0, 1) := by decide +kernel
theorem dX5_mirror_73 : decode cX5_mirror 73 = .ok (.getfield 10, 3) := by decide +kernel
theorem dX5_mirror_76 : decode cX5_mirror 76 = .ok (.iload_n 1, 1) := by decide +kernel
theorem dX5_mirror_77 : decode cX5_mirror 77 = .ok (.iload_n 2, 1) := by decide +kernel
theorem dX5_mirror_78 : decode cX5_mirror 78 = .ok (.invokevirtual 147, 3) := by decide +kernel
theorem dX5_mirror_81 : decode cX5_mirror 81 = .ok (.ireturn, 1) := by decide +kernel
theorem dX5_mirror_82 : decode cX5_mirror 82 = .ok (.ldc 134, 2) := by decide +kernel
theorem dX5_mirror_84 : decode cX5_mirror 84 = .ok (.ireturn, 1) := by decide +kernel
set_option maxRecDepth 20000 in
theorem ggX5_path_X3_hasSeat : GoodIn wsX5_path wsX3_hasSeat := goodIn_r _ [9, 10, 87, 88, 89, 90, 91, 92, 93, 94, 95, 96, 97, 98] (by decide +kernel) (by decide +kernel)
set_option maxRecDepth 20000 in
theorem gX5_path_X3_hasSeat : GoodIn wsX5_path (wsV RX5 86 RX3 yX3_hasSeat wsX3_hasSeat) := goodIn_app (goodIn_of _ (by decide +kernel)) ggX5_path_X3_hasSeat
set_option maxRecDepth 20000 in
theorem ggX5_path_X5_isImage : GoodIn wsX5_path wsX5_isImage := goodIn_r _ [14, 15, 16, 17, 18, 19, 20, 13, 21] (by decide +kernel) (by decide +kernel)
set_option maxRecDepth 20000 in
theorem gX5_path_X5_isImage : GoodIn wsX5_path (va_wsS RX5 130 yX5_isImage wsX5_isImage) := goodIn_app (goodIn_of _ (by decide +kernel)) ggX5_path_X5_isImage
set_option maxRecDepth 20000 in
theorem ggX5_path_X3_waySquared : GoodIn wsX5_path wsX3_waySquared := goodIn_r _ [25, 26, 27, 28, 8, 29, 30, 31, 32, 13, 33, 34, 35, 36, 37, 38, 39, 40, 41, 87, 88, 89, 90, 91, 92, 93, 94, 95, 96, 97, 98] (by decide +kernel) (by decide +kernel)
set_option maxRecDepth 20000 in
theorem gX5_path_X3_waySquared : GoodIn wsX5_path (wsV RX5 151 RX3 yX3_waySquared wsX3_waySquared) := goodIn_app (goodIn_of _ (by decide +kernel)) ggX5_path_X3_waySquared
set_option maxRecDepth 20000 in
theorem ggX5_path_X5_timeOf : GoodIn wsX5_path wsX5_timeOf := goodIn_r _ [44] (by decide +kernel) (by decide +kernel)
set_option maxRecDepth 20000 in
theorem gX5_path_X5_timeOf : GoodIn wsX5_path (va_wsS RX5 155 yX5_timeOf wsX5_timeOf) := goodIn_app (goodIn_of _ (by decide +kernel)) ggX5_path_X5_timeOf
set_option maxRecDepth 20000 in
theorem ggX5_path_X5_strengthOf : GoodIn wsX5_path wsX5_strengthOf := goodIn_r _ [47, 48, 49, 50, 17, 51, 52, 53, 13, 54, 55, 56, 57] (by decide +kernel) (by decide +kernel)
set_option maxRecDepth 20000 in
theorem gX5_path_X5_strengthOf : GoodIn wsX5_path (va_wsS RX5 158 yX5_strengthOf wsX5_strengthOf) := goodIn_app (goodIn_of _ (by decide +kernel)) ggX5_path_X5_strengthOf
set_option maxRecDepth 20000 in
theorem ggX5_path_X3_isHidden : GoodIn wsX5_path wsX3_isHidden := goodIn_r _ [61, 62, 30, 63, 64, 16, 17, 18, 65, 66, 67, 68, 50, 51, 26, 27, 28, 8, 29, 31, 32, 13, 33, 34, 35, 36, 37, 38, 39, 69, 70, 71, 72, 73, 74, 75, 76, 77, 78, 87, 88, 89, 90, 91, 92, 93, 94, 95, 96, 97, 98] (by decide +kernel) (by decide +kernel)
set_option maxRecDepth 20000 in
theorem gX5_path_X3_isHidden : GoodIn wsX5_path (wsV RX5 162 RX3 yX3_isHidden wsX3_isHidden) := goodIn_app (goodIn_of _ (by decide +kernel)) ggX5_path_X3_isHidden
theorem dX5_path_0 : decode cX5_path 0 = .ok (.aload_n 0, 1) := by decide +kernel
theorem dX5_path_1 : decode cX5_path 1 = .ok (.getfield 10, 3) := by decide +kernel
theorem dX5_path_4 : decode cX5_path 4 = .ok (.iload_n 1, 1) := by decide +kernel
theorem dX5_path_5 : decode cX5_path 5 = .ok (.invokevirtual 86, 3) := by decide +kernel
theorem dX5_path_8 : decode cX5_path 8 = .ok (.ifCond .eq 11, 3) := by decide +kernel
theorem dX5_path_11 : decode cX5_path 11 = .ok (.iload_n 2, 1) := by decide +kernel
theorem dX5_path_12 : decode cX5_path 12 = .ok (.iload_n 3, 1) := by decide +kernel
theorem dX5_path_13 : decode cX5_path 13 = .ok (.invokestatic 130, 3) := by decide +kernel
theorem dX5_path_16 : decode cX5_path 16 = .ok (.ifCond .ne 5, 3) := by decide +kernel
theorem dX5_path_19 : decode cX5_path 19 = .ok (.iconst (-1), 1) := by decide +kernel
theorem dX5_path_20 : decode cX5_path 20 = .ok (.ireturn, 1) := by decide +kernel
theorem dX5_path_21 : decode cX5_path 21 = .ok (.aload_n 0, 1) := by decide +kernel
theorem dX5_path_22 : decode cX5_path 22 = .ok (.getfield 10, 3) := by decide +kernel
theorem dX5_path_25 : decode cX5_path 25 = .ok (.getfield 89, 3) := by decide +kernel
theorem dX5_path_28 : decode cX5_path 28 = .ok (.iload_n 1, 1) := by decide +kernel
theorem dX5_path_29 : decode cX5_path 29 = .ok (.iaload, 1) := by decide +kernel
theorem dX5_path_30 : decode cX5_path 30 = .ok (.istore 5, 2) := by decide +kernel
theorem dX5_path_32 : decode cX5_path 32 = .ok (.aload_n 0, 1) := by decide +kernel
theorem dX5_path_33 : decode cX5_path 33 = .ok (.getfield 10, 3) := by decide +kernel
theorem dX5_path_36 : decode cX5_path 36 = .ok (.getfield 92, 3) := by decide +kernel
theorem dX5_path_39 : decode cX5_path 39 = .ok (.iload_n 1, 1) := by decide +kernel
theorem dX5_path_40 : decode cX5_path 40 = .ok (.iaload, 1) := by decide +kernel
theorem dX5_path_41 : decode cX5_path 41 = .ok (.istore 6, 2) := by decide +kernel
theorem dX5_path_43 : decode cX5_path 43 = .ok (.aload_n 0, 1) := by decide +kernel
theorem dX5_path_44 : decode cX5_path 44 = .ok (.getfield 10, 3) := by decide +kernel
theorem dX5_path_47 : decode cX5_path 47 = .ok (.iload_n 2, 1) := by decide +kernel
theorem dX5_path_48 : decode cX5_path 48 = .ok (.iload_n 3, 1) := by decide +kernel
theorem dX5_path_49 : decode cX5_path 49 = .ok (.iload 5, 2) := by decide +kernel
theorem dX5_path_51 : decode cX5_path 51 = .ok (.iload 6, 2) := by decide +kernel
theorem dX5_path_53 : decode cX5_path 53 = .ok (.invokevirtual 151, 3) := by decide +kernel
theorem dX5_path_56 : decode cX5_path 56 = .ok (.istore 7, 2) := by decide +kernel
theorem dX5_path_58 : decode cX5_path 58 = .ok (.iload 4, 2) := by decide +kernel
theorem dX5_path_60 : decode cX5_path 60 = .ok (.tableswitch 78 0 3 #[32, 35, 41, 56], 32) := by decide +kernel
theorem dX5_path_92 : decode cX5_path 92 = .ok (.iload 7, 2) := by decide +kernel
theorem dX5_path_94 : decode cX5_path 94 = .ok (.ireturn, 1) := by decide +kernel
theorem dX5_path_95 : decode cX5_path 95 = .ok (.iload 7, 2) := by decide +kernel
theorem dX5_path_97 : decode cX5_path 97 = .ok (.invokestatic 155, 3) := by decide +kernel
theorem dX5_path_100 : decode cX5_path 100 = .ok (.ireturn, 1) := by decide +kernel
theorem dX5_path_101 : decode cX5_path 101 = .ok (.aload_n 0, 1) := by decide +kernel
theorem dX5_path_102 : decode cX5_path 102 = .ok (.getfield 10, 3) := by decide +kernel
theorem dX5_path_105 : decode cX5_path 105 = .ok (.getfield 82, 3) := by decide +kernel
theorem dX5_path_108 : decode cX5_path 108 = .ok (.iload_n 2, 1) := by decide +kernel
theorem dX5_path_109 : decode cX5_path 109 = .ok (.iload_n 3, 1) := by decide +kernel
theorem dX5_path_110 : decode cX5_path 110 = .ok (.iload 7, 2) := by decide +kernel
theorem dX5_path_112 : decode cX5_path 112 = .ok (.invokestatic 158, 3) := by decide +kernel
theorem dX5_path_115 : decode cX5_path 115 = .ok (.ireturn, 1) := by decide +kernel
theorem dX5_path_116 : decode cX5_path 116 = .ok (.aload_n 0, 1) := by decide +kernel
theorem dX5_path_117 : decode cX5_path 117 = .ok (.getfield 10, 3) := by decide +kernel
theorem dX5_path_120 : decode cX5_path 120 = .ok (.iload_n 2, 1) := by decide +kernel
theorem dX5_path_121 : decode cX5_path 121 = .ok (.iload_n 3, 1) := by decide +kernel
theorem dX5_path_122 : decode cX5_path 122 = .ok (.iload 5, 2) := by decide +kernel
theorem dX5_path_124 : decode cX5_path 124 = .ok (.iload 6, 2) := by decide +kernel
theorem dX5_path_126 : decode cX5_path 126 = .ok (.invokevirtual 162, 3) := by decide +kernel
theorem dX5_path_129 : decode cX5_path 129 = .ok (.ifCond .eq 7, 3) := by decide +kernel
theorem dX5_path_132 : decode cX5_path 132 = .ok (.iconst 1, 1) := by decide +kernel
theorem dX5_path_133 : decode cX5_path 133 = .ok (.goto 4, 3) := by decide +kernel
theorem dX5_path_136 : decode cX5_path 136 = .ok (.iconst 0, 1) := by decide +kernel
theorem dX5_path_137 : decode cX5_path 137 = .ok (.ireturn, 1) := by decide +kernel
theorem dX5_path_138 : decode cX5_path 138 = .ok (.iconst (-1), 1) := by decide +kernel
theorem dX5_path_139 : decode cX5_path 139 = .ok (.ireturn, 1) := by decide +kernel
set_option maxRecDepth 20000 in
theorem ggX5_heard_X3_hasSeat : GoodIn wsX5_heard wsX3_hasSeat := goodIn_r _ [12, 13, 120, 121, 122, 123, 124, 125, 126, 127, 128, 129, 130, 131] (by decide +kernel) (by decide +kernel)
set_option maxRecDepth 20000 in
theorem gX5_heard_X3_hasSeat : GoodIn wsX5_heard (wsV RX5 86 RX3 yX3_hasSeat wsX3_hasSeat) := goodIn_app (goodIn_of _ (by decide +kernel)) ggX5_heard_X3_hasSeat
set_option maxRecDepth 20000 in
theorem ggX5_heard_X5_isWithin : GoodIn wsX5_heard wsX5_isWithin := goodIn_r _ [17] (by decide +kernel) (by decide +kernel)
set_option maxRecDepth 20000 in
theorem gX5_heard_X5_isWithin : GoodIn wsX5_heard (va_wsS RX5 55 yX5_isWithin wsX5_isWithin) := goodIn_app (goodIn_of _ (by decide +kernel)) ggX5_heard_X5_isWithin
set_option maxRecDepth 20000 in
theorem ggX5_heard_X0_hearAtSeat : GoodIn wsX5_heard wsX0_hearAtSeat := goodIn_r _ [22, 23, 24, 25, 26, 27, 28, 29, 30, 31, 9, 10, 11, 12, 13, 32, 33, 34, 35, 36, 37, 38, 39, 40, 41, 42, 43, 44, 45, 46, 47, 48, 49, 50, 51, 16, 52, 53, 54, 55, 56, 57, 58, 59, 60, 61, 62, 63, 64, 65, 66, 67, 68, 69, 70, 71, 72, 73, 74, 75, 76, 77, 21, 78, 79, 80, 81, 82, 83, 84, 85, 86, 87, 88, 89, 90, 91, 92, 93, 94, 95, 96, 97, 98, 99, 100, 112, 113, 114, 115, 116, 117, 118, 119, 120, 121, 122, 123, 124, 125, 126, 127, 128, 129, 130, 131] (by decide +kernel) (by decide +kernel)
set_option maxRecDepth 20000 in
theorem gX5_heard_X0_hearAtSeat : GoodIn wsX5_heard (wsV RX5 166 RX0 yX0_hearAtSeat wsX0_hearAtSeat) := goodIn_app (goodIn_of _ (by decide +kernel)) ggX5_heard_X0_hearAtSeat
set_option maxRecDepth 20000 in
theorem ggX5_heard_X5_imageCode : GoodIn wsX5_heard wsX5_imageCode := goodIn_r _ [103] (by decide +kernel) (by decide +kernel)
set_option maxRecDepth 20000 in
theorem gX5_heard_X5_imageCode : GoodIn wsX5_heard (va_wsS RX5 183 yX5_imageCode wsX5_imageCode) := goodIn_app (goodIn_of _ (by decide +kernel)) ggX5_heard_X5_imageCode
theorem dX5_heard_0 : decode cX5_heard 0 = .ok (.aload_n 0, 1) := by decide +kernel
theorem dX5_heard_1 : decode cX5_heard 1 = .ok (.getfield 10, 3) := by decide +kernel
theorem dX5_heard_4 : decode cX5_heard 4 = .ok (.iload_n 1, 1) := by decide +kernel
theorem dX5_heard_5 : decode cX5_heard 5 = .ok (.invokevirtual 86, 3) := by decide +kernel
theorem dX5_heard_8 : decode cX5_heard 8 = .ok (.ifCond .eq 16, 3) := by decide +kernel
theorem dX5_heard_11 : decode cX5_heard 11 = .ok (.iload_n 2, 1) := by decide +kernel
theorem dX5_heard_12 : decode cX5_heard 12 = .ok (.ifCond .lt 12, 3) := by decide +kernel
theorem dX5_heard_15 : decode cX5_heard 15 = .ok (.iload_n 3, 1) := by decide +kernel
theorem dX5_heard_16 : decode cX5_heard 16 = .ok (.iconst 0, 1) := by decide +kernel
theorem dX5_heard_17 : decode cX5_heard 17 = .ok (.iconst 2, 1) := by decide +kernel
theorem dX5_heard_18 : decode cX5_heard 18 = .ok (.invokestatic 55, 3) := by decide +kernel
theorem dX5_heard_21 : decode cX5_heard 21 = .ok (.ifCond .ne 5, 3) := by decide +kernel
theorem dX5_heard_24 : decode cX5_heard 24 = .ok (.iconst (-1), 1) := by decide +kernel
theorem dX5_heard_25 : decode cX5_heard 25 = .ok (.ireturn, 1) := by decide +kernel
theorem dX5_heard_26 : decode cX5_heard 26 = .ok (.aload_n 0, 1) := by decide +kernel
theorem dX5_heard_27 : decode cX5_heard 27 = .ok (.getfield 44, 3) := by decide +kernel
theorem dX5_heard_30 : decode cX5_heard 30 = .ok (.aload_n 0, 1) := by decide +kernel
theorem dX5_heard_31 : decode cX5_heard 31 = .ok (.getfield 10, 3) := by decide +kernel
theorem dX5_heard_34 : decode cX5_heard 34 = .ok (.iload_n 1, 1) := by decide +kernel
theorem dX5_heard_35 : decode cX5_heard 35 = .ok (.invokevirtual 166, 3) := by decide +kernel
theorem dX5_heard_38 : decode cX5_heard 38 = .ok (.iload_n 2, 1) := by decide +kernel
theorem dX5_heard_39 : decode cX5_heard 39 = .ok (.aload_n 0, 1) := by decide +kernel
theorem dX5_heard_40 : decode cX5_heard 40 = .ok (.getfield 44, 3) := by decide +kernel
theorem dX5_heard_43 : decode cX5_heard 43 = .ok (.getfield 170, 3) := by decide +kernel
theorem dX5_heard_46 : decode cX5_heard 46 = .ok (.if_icmp .lt 6, 3) := by decide +kernel
theorem dX5_heard_49 : decode cX5_heard 49 = .ok (.bipush (-9), 2) := by decide +kernel
theorem dX5_heard_51 : decode cX5_heard 51 = .ok (.ireturn, 1) := by decide +kernel
theorem dX5_heard_52 : decode cX5_heard 52 = .ok (.iload_n 3, 1) := by decide +kernel
theorem dX5_heard_53 : decode cX5_heard 53 = .ok (.lookupswitch 47 #[(0, 27), (1, 37)], 27) := by decide +kernel
theorem dX5_heard_80 : decode cX5_heard 80 = .ok (.aload_n 0, 1) := by decide +kernel
theorem dX5_heard_81 : decode cX5_heard 81 = .ok (.getfield 44, 3) := by decide +kernel
theorem dX5_heard_84 : decode cX5_heard 84 = .ok (.getfield 171, 3) := by decide +kernel
theorem dX5_heard_87 : decode cX5_heard 87 = .ok (.iload_n 2, 1) := by decide +kernel
theorem dX5_heard_88 : decode cX5_heard 88 = .ok (.iaload, 1) := by decide +kernel
theorem dX5_heard_89 : decode cX5_heard 89 = .ok (.ireturn, 1) := by decide +kernel
theorem dX5_heard_90 : decode cX5_heard 90 = .ok (.aload_n 0, 1) := by decide +kernel
theorem dX5_heard_91 : decode cX5_heard 91 = .ok (.getfield 44, 3) := by decide +kernel
theorem dX5_heard_94 : decode cX5_heard 94 = .ok (.getfield 174, 3) := by decide +kernel
theorem dX5_heard_97 : decode cX5_heard 97 = .ok (.iload_n 2, 1) := by decide +kernel
theorem dX5_heard_98 : decode cX5_heard 98 = .ok (.iaload, 1) := by decide +kernel
theorem dX5_heard_99 : decode cX5_heard 99 = .ok (.ireturn, 1) := by decide +kernel
theorem dX5_heard_100 : decode cX5_heard 100 = .ok (.aload_n 0, 1) := by decide +kernel
theorem dX5_heard_101 : decode cX5_heard 101 = .ok (.getfield 44, 3) := by decide +kernel
theorem dX5_heard_104 : decode cX5_heard 104 = .ok (.getfield 177, 3) := by decide +kernel
theorem dX5_heard_107 : decode cX5_heard 107 = .ok (.iload_n 2, 1) := by decide +kernel
theorem dX5_heard_108 : decode cX5_heard 108 = .ok (.iaload, 1) := by decide +kernel
theorem dX5_heard_109 : decode cX5_heard 109 = .ok (.aload_n 0, 1) := by decide +kernel
theorem dX5_heard_110 : decode cX5_heard 110 = .ok (.getfield 44, 3) := by decide +kernel
theorem dX5_heard_113 : decode cX5_heard 113 = .ok (.getfield 180, 3) := by decide +kernel
theorem dX5_heard_116 : decode cX5_heard 116 = .ok (.iload_n 2, 1) := by decide +kernel
theorem dX5_heard_117 : decode cX5_heard 117 = .ok (.iaload, 1) := by decide +kernel
theorem dX5_heard_118 : decode cX5_heard 118 = .ok (.invokestatic 183, 3) := by decide +kernel
theorem dX5_heard_121 : decode cX5_heard 121 = .ok (.ireturn, 1) := by decide +kernel
set_option maxRecDepth 20000 in
theorem ggX5_sound_X3_hasSeat : GoodIn wsX5_sound wsX3_hasSeat := goodIn_r _ [9, 10, 118, 119, 120, 121, 122, 123, 124, 125, 126, 127, 128, 129] (by decide +kernel) (by decide +kernel)
set_option maxRecDepth 20000 in
theorem gX5_sound_X3_hasSeat : GoodIn wsX5_sound (wsV RX5 86 RX3 yX3_hasSeat wsX3_hasSeat) := goodIn_app (goodIn_of _ (by decide +kernel)) ggX5_sound_X3_hasSeat
set_option maxRecDepth 20000 in
theorem ggX5_sound_X5_isWithin : GoodIn wsX5_sound wsX5_isWithin := goodIn_r _ [14] (by decide +kernel) (by decide +kernel)
set_option maxRecDepth 20000 in
theorem gX5_sound_X5_isWithin : GoodIn wsX5_sound (va_wsS RX5 55 yX5_isWithin wsX5_isWithin) := goodIn_app (goodIn_of _ (by decide +kernel)) ggX5_sound_X5_isWithin
set_option maxRecDepth 20000 in
theorem ggX5_sound_X0_hearAtSeat : GoodIn wsX5_sound wsX0_hearAtSeat := goodIn_r _ [19, 20, 21, 22, 23, 24, 25, 26, 27, 28, 6, 7, 8, 9, 10, 29, 30, 31, 32, 33, 34, 35, 36, 37, 38, 39, 40, 41, 42, 43, 44, 45, 46, 47, 48, 13, 49, 50, 51, 52, 53, 54, 55, 56, 57, 58, 59, 60, 61, 62, 63, 64, 65, 66, 67, 68, 69, 70, 71, 72, 73, 74, 18, 75, 76, 77, 78, 79, 80, 81, 82, 83, 84, 85, 86, 87, 88, 89, 90, 91, 92, 93, 94, 95, 96, 97, 110, 111, 112, 113, 114, 115, 116, 117, 118, 119, 120, 121, 122, 123, 124, 125, 126, 127, 128, 129] (by decide +kernel) (by decide +kernel)
set_option maxRecDepth 20000 in
theorem gX5_sound_X0_hearAtSeat : GoodIn wsX5_sound (wsV RX5 166 RX0 yX0_hearAtSeat wsX0_hearAtSeat) := goodIn_app (goodIn_of _ (by decide +kernel)) ggX5_sound_X0_hearAtSeat
set_option maxRecDepth 20000 in
theorem ggX5_sound_X0_firstGap : GoodIn wsX5_sound wsX0_firstGap := goodIn_r _ [101, 20, 76, 110, 111, 112, 113, 114, 115, 116, 117] (by decide +kernel) (by decide +kernel)
set_option maxRecDepth 20000 in
theorem gX5_sound_X0_firstGap : GoodIn wsX5_sound (wsV RX5 189 RX0 yX0_firstGap wsX0_firstGap) := goodIn_app (goodIn_of _ (by decide +kernel)) ggX5_sound_X0_firstGap
theorem dX5_sound_0 : decode cX5_sound 0 = .ok (.aload_n 0, 1) := by decide +kernel
theorem dX5_sound_1 : decode cX5_sound 1 = .ok (.getfield 10, 3) := by decide +kernel
theorem dX5_sound_4 : decode cX5_sound 4 = .ok (.iload_n 1, 1) := by decide +kernel
theorem dX5_sound_5 : decode cX5_sound 5 = .ok (.invokevirtual 86, 3) := by decide +kernel
theorem dX5_sound_8 : decode cX5_sound 8 = .ok (.ifCond .eq 12, 3) := by decide +kernel
theorem dX5_sound_11 : decode cX5_sound 11 = .ok (.iload_n 2, 1) := by decide +kernel
theorem dX5_sound_12 : decode cX5_sound 12 = .ok (.iconst 0, 1) := by decide +kernel
theorem dX5_sound_13 : decode cX5_sound 13 = .ok (.iconst 2, 1) := by decide +kernel
theorem dX5_sound_14 : decode cX5_sound 14 = .ok (.invokestatic 55, 3) := by decide +kernel
theorem dX5_sound_17 : decode cX5_sound 17 = .ok (.ifCond .ne 5, 3) := by decide +kernel
theorem dX5_sound_20 : decode cX5_sound 20 = .ok (.iconst (-1), 1) := by decide +kernel
theorem dX5_sound_21 : decode cX5_sound 21 = .ok (.ireturn, 1) := by decide +kernel
theorem dX5_sound_22 : decode cX5_sound 22 = .ok (.aload_n 0, 1) := by decide +kernel
theorem dX5_sound_23 : decode cX5_sound 23 = .ok (.getfield 44, 3) := by decide +kernel
theorem dX5_sound_26 : decode cX5_sound 26 = .ok (.aload_n 0, 1) := by decide +kernel
theorem dX5_sound_27 : decode cX5_sound 27 = .ok (.getfield 10, 3) := by decide +kernel
theorem dX5_sound_30 : decode cX5_sound 30 = .ok (.iload_n 1, 1) := by decide +kernel
theorem dX5_sound_31 : decode cX5_sound 31 = .ok (.invokevirtual 166, 3) := by decide +kernel
theorem dX5_sound_34 : decode cX5_sound 34 = .ok (.iload_n 2, 1) := by decide +kernel
theorem dX5_sound_35 : decode cX5_sound 35 = .ok (.lookupswitch 41 #[(0, 25), (1, 33)], 25) := by decide +kernel
theorem dX5_sound_60 : decode cX5_sound 60 = .ok (.aload_n 0, 1) := by decide +kernel
theorem dX5_sound_61 : decode cX5_sound 61 = .ok (.getfield 44, 3) := by decide +kernel
theorem dX5_sound_64 : decode cX5_sound 64 = .ok (.getfield 170, 3) := by decide +kernel
theorem dX5_sound_67 : decode cX5_sound 67 = .ok (.ireturn, 1) := by decide +kernel
theorem dX5_sound_68 : decode cX5_sound 68 = .ok (.aload_n 0, 1) := by decide +kernel
theorem dX5_sound_69 : decode cX5_sound 69 = .ok (.getfield 44, 3) := by decide +kernel
theorem dX5_sound_72 : decode cX5_sound 72 = .ok (.getfield 186, 3) := by decide +kernel
theorem dX5_sound_75 : decode cX5_sound 75 = .ok (.ireturn, 1) := by decide +kernel
theorem dX5_sound_76 : decode cX5_sound 76 = .ok (.aload_n 0, 1) := by decide +kernel
theorem dX5_sound_77 : decode cX5_sound 77 = .ok (.getfield 44, 3) := by decide +kernel
theorem dX5_sound_80 : decode cX5_sound 80 = .ok (.invokevirtual 189, 3) := by decide +kernel
theorem dX5_sound_83 : decode cX5_sound 83 = .ok (.ireturn, 1) := by decide +kernel
set_option maxRecDepth 20000 in
theorem ggX5_early_X3_hasSeat : GoodIn wsX5_early wsX3_hasSeat := goodIn_r _ [8, 9, 123, 124, 125, 126, 127, 128, 129, 130, 131, 132, 133, 134] (by decide +kernel) (by decide +kernel)
set_option maxRecDepth 20000 in
theorem gX5_early_X3_hasSeat : GoodIn wsX5_early (wsV RX5 86 RX3 yX3_hasSeat wsX3_hasSeat) := goodIn_app (goodIn_of _ (by decide +kernel)) ggX5_early_X3_hasSeat
set_option maxRecDepth 20000 in
theorem ggX5_early_X5_isWithin : GoodIn wsX5_early wsX5_isWithin := goodIn_r _ [13] (by decide +kernel) (by decide +kernel)
set_option maxRecDepth 20000 in
theorem gX5_early_X5_isWithin : GoodIn wsX5_early (va_wsS RX5 55 yX5_isWithin wsX5_isWithin) := goodIn_app (goodIn_of _ (by decide +kernel)) ggX5_early_X5_isWithin
set_option maxRecDepth 20000 in
theorem ggX5_early_X0_hearAtSeat : GoodIn wsX5_early wsX0_hearAtSeat := goodIn_r _ [18, 19, 20, 21, 22, 23, 24, 25, 26, 27, 5, 6, 7, 8, 9, 28, 29, 30, 31, 32, 33, 34, 35, 36, 37, 38, 39, 40, 41, 42, 43, 44, 45, 46, 47, 12, 48, 49, 50, 51, 52, 53, 54, 55, 56, 57, 58, 59, 60, 61, 62, 63, 64, 65, 66, 67, 68, 69, 70, 71, 72, 73, 17, 74, 75, 76, 77, 78, 79, 80, 81, 82, 83, 84, 85, 86, 87, 88, 89, 90, 91, 92, 93, 94, 95, 96, 115, 116, 117, 118, 119, 120, 121, 122, 123, 124, 125, 126, 127, 128, 129, 130, 131, 132, 133, 134] (by decide +kernel) (by decide +kernel)
set_option maxRecDepth 20000 in
theorem gX5_early_X0_hearAtSeat : GoodIn wsX5_early (wsV RX5 166 RX0 yX0_hearAtSeat wsX0_hearAtSeat) := goodIn_app (goodIn_of _ (by decide +kernel)) ggX5_early_X0_hearAtSeat
set_option maxRecDepth 20000 in
theorem ggX5_early_X0_strengthUpTo : GoodIn wsX5_early wsX0_strengthUpTo := goodIn_r _ [100, 19, 75, 79, 115, 116, 117, 118, 119, 120, 121, 122] (by decide +kernel) (by decide +kernel)
set_option maxRecDepth 20000 in
theorem gX5_early_X0_strengthUpTo : GoodIn wsX5_early (wsV RX5 192 RX0 yX0_strengthUpTo wsX0_strengthUpTo) := goodIn_app (goodIn_of _ (by decide +kernel)) ggX5_early_X0_strengthUpTo
set_option maxRecDepth 20000 in
theorem ggX5_early_X5_leastTerm : GoodIn wsX5_early wsX5_leastTerm := goodIn_r _ [103, 90, 40, 25, 41, 104, 105, 12, 106] (by decide +kernel) (by decide +kernel)
set_option maxRecDepth 20000 in
theorem gX5_early_X5_leastTerm : GoodIn wsX5_early (va_wsS RX5 195 yX5_leastTerm wsX5_leastTerm) := goodIn_app (goodIn_of _ (by decide +kernel)) ggX5_early_X5_leastTerm
theorem dX5_early_0 : decode cX5_early 0 = .ok (.aload_n 0, 1) := by decide +kernel
theorem dX5_early_1 : decode cX5_early 1 = .ok (.getfield 10, 3) := by decide +kernel
theorem dX5_early_4 : decode cX5_early 4 = .ok (.iload_n 1, 1) := by decide +kernel
theorem dX5_early_5 : decode cX5_early 5 = .ok (.invokevirtual 86, 3) := by decide +kernel
theorem dX5_early_8 : decode cX5_early 8 = .ok (.ifCond .eq 23, 3) := by decide +kernel
theorem dX5_early_11 : decode cX5_early 11 = .ok (.iload_n 2, 1) := by decide +kernel
theorem dX5_early_12 : decode cX5_early 12 = .ok (.iconst 0, 1) := by decide +kernel
theorem dX5_early_13 : decode cX5_early 13 = .ok (.sipush 999, 3) := by decide +kernel
theorem dX5_early_16 : decode cX5_early 16 = .ok (.invokestatic 55, 3) := by decide +kernel
theorem dX5_early_19 : decode cX5_early 19 = .ok (.ifCond .eq 12, 3) := by decide +kernel
theorem dX5_early_22 : decode cX5_early 22 = .ok (.iload_n 3, 1) := by decide +kernel
theorem dX5_early_23 : decode cX5_early 23 = .ok (.iconst 0, 1) := by decide +kernel
theorem dX5_early_24 : decode cX5_early 24 = .ok (.iconst 1, 1) := by decide +kernel
theorem dX5_early_25 : decode cX5_early 25 = .ok (.invokestatic 55, 3) := by decide +kernel
theorem dX5_early_28 : decode cX5_early 28 = .ok (.ifCond .ne 5, 3) := by decide +kernel
theorem dX5_early_31 : decode cX5_early 31 = .ok (.iconst (-1), 1) := by decide +kernel
theorem dX5_early_32 : decode cX5_early 32 = .ok (.ireturn, 1) := by decide +kernel
theorem dX5_early_33 : decode cX5_early 33 = .ok (.aload_n 0, 1) := by decide +kernel
theorem dX5_early_34 : decode cX5_early 34 = .ok (.getfield 44, 3) := by decide +kernel
theorem dX5_early_37 : decode cX5_early 37 = .ok (.aload_n 0, 1) := by decide +kernel
theorem dX5_early_38 : decode cX5_early 38 = .ok (.getfield 10, 3) := by decide +kernel
theorem dX5_early_41 : decode cX5_early 41 = .ok (.iload_n 1, 1) := by decide +kernel
theorem dX5_early_42 : decode cX5_early 42 = .ok (.invokevirtual 166, 3) := by decide +kernel
theorem dX5_early_45 : decode cX5_early 45 = .ok (.aload_n 0, 1) := by decide +kernel
theorem dX5_early_46 : decode cX5_early 46 = .ok (.getfield 44, 3) := by decide +kernel
theorem dX5_early_49 : decode cX5_early 49 = .ok (.iload_n 2, 1) := by decide +kernel
theorem dX5_early_50 : decode cX5_early 50 = .ok (.invokevirtual 192, 3) := by decide +kernel
theorem dX5_early_53 : decode cX5_early 53 = .ok (.aload_n 0, 1) := by decide +kernel
theorem dX5_early_54 : decode cX5_early 54 = .ok (.getfield 44, 3) := by decide +kernel
theorem dX5_early_57 : decode cX5_early 57 = .ok (.getfield 186, 3) := by decide +kernel
theorem dX5_early_60 : decode cX5_early 60 = .ok (.iload_n 3, 1) := by decide +kernel
theorem dX5_early_61 : decode cX5_early 61 = .ok (.invokestatic 195, 3) := by decide +kernel
theorem dX5_early_64 : decode cX5_early 64 = .ok (.ireturn, 1) := by decide +kernel
set_option maxRecDepth 20000 in
theorem ggX5_fade_X3_hasSeat : GoodIn wsX5_fade wsX3_hasSeat := goodIn_r _ [7, 8, 108, 109, 110, 111, 112, 113, 114, 115, 116, 117, 118, 119] (by decide +kernel) (by decide +kernel)
set_option maxRecDepth 20000 in
theorem gX5_fade_X3_hasSeat : GoodIn wsX5_fade (wsV RX5 86 RX3 yX3_hasSeat wsX3_hasSeat) := goodIn_app (goodIn_of _ (by decide +kernel)) ggX5_fade_X3_hasSeat
set_option maxRecDepth 20000 in
theorem ggX5_fade_X5_isWithin : GoodIn wsX5_fade wsX5_isWithin := goodIn_r _ [12] (by decide +kernel) (by decide +kernel)
set_option maxRecDepth 20000 in
theorem gX5_fade_X5_isWithin : GoodIn wsX5_fade (va_wsS RX5 55 yX5_isWithin wsX5_isWithin) := goodIn_app (goodIn_of _ (by decide +kernel)) ggX5_fade_X5_isWithin
set_option maxRecDepth 20000 in
theorem ggX5_fade_X0_hearAtSeat : GoodIn wsX5_fade wsX0_hearAtSeat := goodIn_r _ [17, 18, 19, 20, 21, 22, 23, 24, 25, 26, 4, 5, 6, 7, 8, 27, 28, 29, 30, 31, 32, 33, 34, 35, 36, 37, 38, 39, 40, 41, 42, 43, 44, 45, 46, 11, 47, 48, 49, 50, 51, 52, 53, 54, 55, 56, 57, 58, 59, 60, 61, 62, 63, 64, 65, 66, 67, 68, 69, 70, 71, 72, 16, 73, 74, 75, 76, 77, 78, 79, 80, 81, 82, 83, 84, 85, 86, 87, 88, 89, 90, 91, 92, 93, 94, 95, 120, 121, 122, 123, 124, 125, 126, 127, 108, 109, 110, 111, 112, 113, 114, 115, 116, 117, 118, 119] (by decide +kernel) (by decide +kernel)
set_option maxRecDepth 20000 in
theorem gX5_fade_X0_hearAtSeat : GoodIn wsX5_fade (wsV RX5 166 RX0 yX0_hearAtSeat wsX0_hearAtSeat) := goodIn_app (goodIn_of _ (by decide +kernel)) ggX5_fade_X0_hearAtSeat
set_option maxRecDepth 20000 in
theorem ggX5_fade_X0_fadeTime : GoodIn wsX5_fade wsX0_fadeTime := goodIn_r _ [99, 19, 18, 78, 74, 120, 121, 122, 123, 124, 125, 126, 127] (by decide +kernel) (by decide +kernel)
set_option maxRecDepth 20000 in
theorem gX5_fade_X0_fadeTime : GoodIn wsX5_fade (wsV RX5 199 RX0 yX0_fadeTime wsX0_fadeTime) := goodIn_app (goodIn_of _ (by decide +kernel)) ggX5_fade_X0_fadeTime
theorem dX5_fade_0 : decode cX5_fade 0 = .ok (.aload_n 0, 1) := by decide +kernel
theorem dX5_fade_1 : decode cX5_fade 1 = .ok (.getfield 10, 3) := by decide +kernel
theorem dX5_fade_4 : decode cX5_fade 4 = .ok (.iload_n 1, 1) := by decide +kernel
theorem dX5_fade_5 : decode cX5_fade 5 = .ok (.invokevirtual 86, 3) := by decide +kernel
theorem dX5_fade_8 : decode cX5_fade 8 = .ok (.ifCond .eq 13, 3) := by decide +kernel
theorem dX5_fade_11 : decode cX5_fade 11 = .ok (.iload_n 2, 1) := by decide +kernel
theorem dX5_fade_12 : decode cX5_fade 12 = .ok (.iconst 1, 1) := by decide +kernel
theorem dX5_fade_13 : decode cX5_fade 13 = .ok (.bipush 9, 2) := by decide +kernel
theorem dX5_fade_15 : decode cX5_fade 15 = .ok (.invokestatic 55, 3) := by decide +kernel
theorem dX5_fade_18 : decode cX5_fade 18 = .ok (.ifCond .ne 5, 3) := by decide +kernel
theorem dX5_fade_21 : decode cX5_fade 21 = .ok (.iconst (-1), 1) := by decide +kernel
theorem dX5_fade_22 : decode cX5_fade 22 = .ok (.ireturn, 1) := by decide +kernel
theorem dX5_fade_23 : decode cX5_fade 23 = .ok (.aload_n 0, 1) := by decide +kernel
theorem dX5_fade_24 : decode cX5_fade 24 = .ok (.getfield 44, 3) := by decide +kernel
theorem dX5_fade_27 : decode cX5_fade 27 = .ok (.aload_n 0, 1) := by decide +kernel
theorem dX5_fade_28 : decode cX5_fade 28 = .ok (.getfield 10, 3) := by decide +kernel
theorem dX5_fade_31 : decode cX5_fade 31 = .ok (.iload_n 1, 1) := by decide +kernel
theorem dX5_fade_32 : decode cX5_fade 32 = .ok (.invokevirtual 166, 3) := by decide +kernel
theorem dX5_fade_35 : decode cX5_fade 35 = .ok (.aload_n 0, 1) := by decide +kernel
theorem dX5_fade_36 : decode cX5_fade 36 = .ok (.getfield 44, 3) := by decide +kernel
theorem dX5_fade_39 : decode cX5_fade 39 = .ok (.iload_n 2, 1) := by decide +kernel
theorem dX5_fade_40 : decode cX5_fade 40 = .ok (.invokevirtual 199, 3) := by decide +kernel
theorem dX5_fade_43 : decode cX5_fade 43 = .ok (.ireturn, 1) := by decide +kernel
set_option maxRecDepth 20000 in
theorem ggX5_best_X5_isWithin : GoodIn wsX5_best wsX5_isWithin := goodIn_r _ [12] (by decide +kernel) (by decide +kernel)
set_option maxRecDepth 20000 in
theorem gX5_best_X5_isWithin : GoodIn wsX5_best (va_wsS RX5 55 yX5_isWithin wsX5_isWithin) := goodIn_app (goodIn_of _ (by decide +kernel)) ggX5_best_X5_isWithin
set_option maxRecDepth 20000 in
theorem ggX5_best_X0_hearAtSeat : GoodIn wsX5_best wsX0_hearAtSeat := goodIn_r _ [17, 18, 19, 20, 21, 22, 23, 7, 24, 25, 26, 27, 28, 29, 30, 31, 32, 33, 34, 35, 36, 37, 38, 39, 40, 41, 42, 6, 8, 43, 44, 45, 46, 47, 48, 11, 49, 50, 51, 52, 53, 54, 55, 56, 57, 58, 59, 60, 61, 62, 63, 64, 65, 66, 67, 68, 69, 70, 71, 72, 73, 74, 16, 75, 76, 77, 78, 79, 80, 81, 82, 83, 84, 85, 86, 87, 88, 89, 90, 5, 91, 92, 93, 94, 95, 96, 121, 122, 123, 124, 125, 126, 127, 128, 109, 110, 111, 112, 113, 114, 115, 116, 117, 118, 119, 120] (by decide +kernel) (by decide +kernel)
set_option maxRecDepth 20000 in
theorem gX5_best_X0_hearAtSeat : GoodIn wsX5_best (wsV RX5 166 RX0 yX0_hearAtSeat wsX0_hearAtSeat) := goodIn_app (goodIn_of _ (by decide +kernel)) ggX5_best_X0_hearAtSeat
set_option maxRecDepth 20000 in
theorem ggX5_best_X0_strengthUpTo : GoodIn wsX5_best wsX0_strengthUpTo := goodIn_r _ [100, 18, 76, 80, 121, 122, 123, 124, 125, 126, 127, 128] (by decide +kernel) (by decide +kernel)
set_option maxRecDepth 20000 in
theorem gX5_best_X0_strengthUpTo : GoodIn wsX5_best (wsV RX5 192 RX0 yX0_strengthUpTo wsX0_strengthUpTo) := goodIn_app (goodIn_of _ (by decide +kernel)) ggX5_best_X0_strengthUpTo
theorem dX5_best_0 : decode cX5_best 0 = .ok (.iload_n 1, 1) := by decide +kernel
theorem dX5_best_1 : decode cX5_best 1 = .ok (.iconst 0, 1) := by decide +kernel
theorem dX5_best_2 : decode cX5_best 2 = .ok (.sipush 999, 3) := by decide +kernel
theorem dX5_best_5 : decode cX5_best 5 = .ok (.invokestatic 55, 3) := by decide +kernel
theorem dX5_best_8 : decode cX5_best 8 = .ok (.ifCond .ne 5, 3) := by decide +kernel
theorem dX5_best_11 : decode cX5_best 11 = .ok (.iconst (-1), 1) := by decide +kernel
theorem dX5_best_12 : decode cX5_best 12 = .ok (.ireturn, 1) := by decide +kernel
theorem dX5_best_13 : decode cX5_best 13 = .ok (.bipush (-9), 2) := by decide +kernel
theorem dX5_best_15 : decode cX5_best 15 = .ok (.istore_n 2, 1) := by decide +kernel
theorem dX5_best_16 : decode cX5_best 16 = .ok (.lconst 0, 1) := by decide +kernel
theorem dX5_best_17 : decode cX5_best 17 = .ok (.lstore_n 3, 1) := by decide +kernel
theorem dX5_best_18 : decode cX5_best 18 = .ok (.lconst 1, 1) := by decide +kernel
theorem dX5_best_19 : decode cX5_best 19 = .ok (.lstore 5, 2) := by decide +kernel
theorem dX5_best_21 : decode cX5_best 21 = .ok (.iconst 0, 1) := by decide +kernel
theorem dX5_best_22 : decode cX5_best 22 = .ok (.istore 7, 2) := by decide +kernel
theorem dX5_best_24 : decode cX5_best 24 = .ok (.iload 7, 2) := by decide +kernel
theorem dX5_best_26 : decode cX5_best 26 = .ok (.aload_n 0, 1) := by decide +kernel
theorem dX5_best_27 : decode cX5_best 27 = .ok (.getfield 10, 3) := by decide +kernel
theorem dX5_best_30 : decode cX5_best 30 = .ok (.getfield 202, 3) := by decide +kernel
theorem dX5_best_33 : decode cX5_best 33 = .ok (.if_icmp .ge 76, 3) := by decide +kernel
theorem dX5_best_36 : decode cX5_best 36 = .ok (.aload_n 0, 1) := by decide +kernel
theorem dX5_best_37 : decode cX5_best 37 = .ok (.getfield 44, 3) := by decide +kernel
theorem dX5_best_40 : decode cX5_best 40 = .ok (.aload_n 0, 1) := by decide +kernel
theorem dX5_best_41 : decode cX5_best 41 = .ok (.getfield 10, 3) := by decide +kernel
theorem dX5_best_44 : decode cX5_best 44 = .ok (.iload 7, 2) := by decide +kernel
theorem dX5_best_46 : decode cX5_best 46 = .ok (.invokevirtual 166, 3) := by decide +kernel
theorem dX5_best_49 : decode cX5_best 49 = .ok (.aload_n 0, 1) := by decide +kernel
theorem dX5_best_50 : decode cX5_best 50 = .ok (.getfield 44, 3) := by decide +kernel
theorem dX5_best_53 : decode cX5_best 53 = .ok (.iload_n 1, 1) := by decide +kernel
theorem dX5_best_54 : decode cX5_best 54 = .ok (.invokevirtual 192, 3) := by decide +kernel
theorem dX5_best_57 : decode cX5_best 57 = .ok (.i2l, 1) := by decide +kernel
theorem dX5_best_58 : decode cX5_best 58 = .ok (.lstore 8, 2) := by decide +kernel
theorem dX5_best_60 : decode cX5_best 60 = .ok (.iconst 1, 1) := by decide +kernel
theorem dX5_best_61 : decode cX5_best 61 = .ok (.aload_n 0, 1) := by decide +kernel
theorem dX5_best_62 : decode cX5_best 62 = .ok (.getfield 44, 3) := by decide +kernel
theorem dX5_best_65 : decode cX5_best 65 = .ok (.getfield 186, 3) := by decide +kernel
theorem dX5_best_68 : decode cX5_best 68 = .ok (.invokestatic 205, 3) := by decide +kernel
theorem dX5_best_71 : decode cX5_best 71 = .ok (.i2l, 1) := by decide +kernel
theorem dX5_best_72 : decode cX5_best 72 = .ok (.lstore 10, 2) := by decide +kernel
theorem dX5_best_74 : decode cX5_best 74 = .ok (.iload_n 2, 1) := by decide +kernel
theorem dX5_best_75 : decode cX5_best 75 = .ok (.bipush (-9), 2) := by decide +kernel
theorem dX5_best_77 : decode cX5_best 77 = .ok (.if_icmp .eq 16, 3) := by decide +kernel
theorem dX5_best_80 : decode cX5_best 80 = .ok (.lload 8, 2) := by decide +kernel
theorem dX5_best_82 : decode cX5_best 82 = .ok (.lload 5, 2) := by decide +kernel
theorem dX5_best_84 : decode cX5_best 84 = .ok (.lmul, 1) := by decide +kernel
theorem dX5_best_85 : decode cX5_best 85 = .ok (.lload_n 3, 1) := by decide +kernel
theorem dX5_best_86 : decode cX5_best 86 = .ok (.lload 10, 2) := by decide +kernel
theorem dX5_best_88 : decode cX5_best 88 = .ok (.lmul, 1) := by decide +kernel
theorem dX5_best_89 : decode cX5_best 89 = .ok (.lcmp, 1) := by decide +kernel
theorem dX5_best_90 : decode cX5_best 90 = .ok (.ifCond .le 13, 3) := by decide +kernel
theorem dX5_best_93 : decode cX5_best 93 = .ok (.iload 7, 2) := by decide +kernel
theorem dX5_best_95 : decode cX5_best 95 = .ok (.istore_n 2, 1) := by decide +kernel
theorem dX5_best_96 : decode cX5_best 96 = .ok (.lload 8, 2) := by decide +kernel
theorem dX5_best_98 : decode cX5_best 98 = .ok (.lstore_n 3, 1) := by decide +kernel
theorem dX5_best_99 : decode cX5_best 99 = .ok (.lload 10, 2) := by decide +kernel
theorem dX5_best_101 : decode cX5_best 101 = .ok (.lstore 5, 2) := by decide +kernel
theorem dX5_best_103 : decode cX5_best 103 = .ok (.iinc 7 1, 3) := by decide +kernel
theorem dX5_best_106 : decode cX5_best 106 = .ok (.goto (-82), 3) := by decide +kernel
theorem dX5_best_109 : decode cX5_best 109 = .ok (.iload_n 2, 1) := by decide +kernel
theorem dX5_best_110 : decode cX5_best 110 = .ok (.ireturn, 1) := by decide +kernel
set_option maxRecDepth 20000 in
theorem ggX5_odds_X5_isWithin : GoodIn wsX5_odds wsX5_isWithin := goodIn_r _ [8] (by decide +kernel) (by decide +kernel)
set_option maxRecDepth 20000 in
theorem gX5_odds_X5_isWithin : GoodIn wsX5_odds (va_wsS RX5 55 yX5_isWithin wsX5_isWithin) := goodIn_app (goodIn_of _ (by decide +kernel)) ggX5_odds_X5_isWithin
set_option maxRecDepth 20000 in
theorem ggX5_odds_X3_hasSeat : GoodIn wsX5_odds wsX3_hasSeat := goodIn_r _ [13, 14, 120, 121, 122, 123, 124, 125, 126, 127, 128, 129, 130, 131] (by decide +kernel) (by decide +kernel)
set_option maxRecDepth 20000 in
theorem gX5_odds_X3_hasSeat : GoodIn wsX5_odds (wsV RX5 86 RX3 yX3_hasSeat wsX3_hasSeat) := goodIn_app (goodIn_of _ (by decide +kernel)) ggX5_odds_X3_hasSeat
set_option maxRecDepth 20000 in
theorem ggX5_odds_X0_hearAtSeat : GoodIn wsX5_odds wsX0_hearAtSeat := goodIn_r _ [19, 20, 21, 22, 23, 24, 25, 26, 27, 28, 10, 11, 12, 13, 14, 29, 30, 31, 32, 33, 34, 35, 36, 37, 38, 39, 40, 41, 42, 43, 44, 45, 46, 47, 48, 7, 49, 50, 51, 52, 53, 54, 55, 56, 57, 58, 59, 60, 61, 62, 63, 64, 65, 66, 67, 68, 69, 70, 71, 72, 73, 74, 18, 75, 76, 77, 78, 79, 80, 81, 82, 83, 84, 85, 86, 87, 88, 89, 90, 91, 92, 93, 94, 95, 96, 97, 132, 133, 134, 135, 136, 137, 138, 139, 120, 121, 122, 123, 124, 125, 126, 127, 128, 129, 130, 131] (by decide +kernel) (by decide +kernel)
set_option maxRecDepth 20000 in
theorem gX5_odds_X0_hearAtSeat : GoodIn wsX5_odds (wsV RX5 166 RX0 yX0_hearAtSeat wsX0_hearAtSeat) := goodIn_app (goodIn_of _ (by decide +kernel)) ggX5_odds_X0_hearAtSeat
set_option maxRecDepth 20000 in
theorem ggX5_odds_X0_soundIfDeaf : GoodIn wsX5_odds wsX0_soundIfDeaf := goodIn_r _ [101, 102, 20, 77, 78, 79, 88, 7, 89, 90, 91, 41, 26, 42, 92, 93, 94, 95, 96, 97, 132, 133, 134, 135, 136, 137, 138, 139] (by decide +kernel) (by decide +kernel)
set_option maxRecDepth 20000 in
theorem gX5_odds_X0_soundIfDeaf : GoodIn wsX5_odds (wsV RX5 209 RX0 yX0_soundIfDeaf wsX0_soundIfDeaf) := goodIn_app (goodIn_of _ (by decide +kernel)) ggX5_odds_X0_soundIfDeaf
set_option maxRecDepth 20000 in
theorem ggX5_odds_X5_chanceOf : GoodIn wsX5_odds wsX5_chanceOf := goodIn_r _ [105] (by decide +kernel) (by decide +kernel)
set_option maxRecDepth 20000 in
theorem gX5_odds_X5_chanceOf : GoodIn wsX5_odds (va_wsS RX5 213 yX5_chanceOf wsX5_chanceOf) := goodIn_app (goodIn_of _ (by decide +kernel)) ggX5_odds_X5_chanceOf
set_option maxRecDepth 20000 in
theorem ggX5_odds_X5_leastTerm : GoodIn wsX5_odds wsX5_leastTerm := goodIn_r _ [108, 91, 41, 26, 42, 109, 110, 7, 111] (by decide +kernel) (by decide +kernel)
set_option maxRecDepth 20000 in
theorem gX5_odds_X5_leastTerm : GoodIn wsX5_odds (va_wsS RX5 195 yX5_leastTerm wsX5_leastTerm) := goodIn_app (goodIn_of _ (by decide +kernel)) ggX5_odds_X5_leastTerm
theorem dX5_odds_0 : decode cX5_odds 0 = .ok (.iload_n 1, 1) := by decide +kernel
theorem dX5_odds_1 : decode cX5_odds 1 = .ok (.iconst 0, 1) := by decide +kernel
theorem dX5_odds_2 : decode cX5_odds 2 = .ok (.bipush 10, 2) := by decide +kernel
theorem dX5_odds_4 : decode cX5_odds 4 = .ok (.invokestatic 55, 3) := by decide +kernel
theorem dX5_odds_7 : decode cX5_odds 7 = .ok (.ifCond .eq 34, 3) := by decide +kernel
theorem dX5_odds_10 : decode cX5_odds 10 = .ok (.aload_n 0, 1) := by decide +kernel
theorem dX5_odds_11 : decode cX5_odds 11 = .ok (.getfield 10, 3) := by decide +kernel
theorem dX5_odds_14 : decode cX5_odds 14 = .ok (.iload_n 2, 1) := by decide +kernel
theorem dX5_odds_15 : decode cX5_odds 15 = .ok (.invokevirtual 86, 3) := by decide +kernel
theorem dX5_odds_18 : decode cX5_odds 18 = .ok (.ifCond .eq 23, 3) := by decide +kernel
theorem dX5_odds_21 : decode cX5_odds 21 = .ok (.iload_n 3, 1) := by decide +kernel
theorem dX5_odds_22 : decode cX5_odds 22 = .ok (.iconst 0, 1) := by decide +kernel
theorem dX5_odds_23 : decode cX5_odds 23 = .ok (.ldc 208, 2) := by decide +kernel
theorem dX5_odds_25 : decode cX5_odds 25 = .ok (.invokestatic 55, 3) := by decide +kernel
theorem dX5_odds_28 : decode cX5_odds 28 = .ok (.ifCond .eq 13, 3) := by decide +kernel
theorem dX5_odds_31 : decode cX5_odds 31 = .ok (.iload 4, 2) := by decide +kernel
theorem dX5_odds_33 : decode cX5_odds 33 = .ok (.iconst 0, 1) := by decide +kernel
theorem dX5_odds_34 : decode cX5_odds 34 = .ok (.iconst 1, 1) := by decide +kernel
theorem dX5_odds_35 : decode cX5_odds 35 = .ok (.invokestatic 55, 3) := by decide +kernel
theorem dX5_odds_38 : decode cX5_odds 38 = .ok (.ifCond .ne 5, 3) := by decide +kernel
theorem dX5_odds_41 : decode cX5_odds 41 = .ok (.iconst (-1), 1) := by decide +kernel
theorem dX5_odds_42 : decode cX5_odds 42 = .ok (.ireturn, 1) := by decide +kernel
theorem dX5_odds_43 : decode cX5_odds 43 = .ok (.aload_n 0, 1) := by decide +kernel
theorem dX5_odds_44 : decode cX5_odds 44 = .ok (.getfield 44, 3) := by decide +kernel
theorem dX5_odds_47 : decode cX5_odds 47 = .ok (.aload_n 0, 1) := by decide +kernel
theorem dX5_odds_48 : decode cX5_odds 48 = .ok (.getfield 10, 3) := by decide +kernel
theorem dX5_odds_51 : decode cX5_odds 51 = .ok (.iload_n 2, 1) := by decide +kernel
theorem dX5_odds_52 : decode cX5_odds 52 = .ok (.invokevirtual 166, 3) := by decide +kernel
theorem dX5_odds_55 : decode cX5_odds 55 = .ok (.iconst 0, 1) := by decide +kernel
theorem dX5_odds_56 : decode cX5_odds 56 = .ok (.istore 5, 2) := by decide +kernel
theorem dX5_odds_58 : decode cX5_odds 58 = .ok (.iconst 0, 1) := by decide +kernel
theorem dX5_odds_59 : decode cX5_odds 59 = .ok (.istore 6, 2) := by decide +kernel
theorem dX5_odds_61 : decode cX5_odds 61 = .ok (.iload 6, 2) := by decide +kernel
theorem dX5_odds_63 : decode cX5_odds 63 = .ok (.bipush 16, 2) := by decide +kernel
theorem dX5_odds_65 : decode cX5_odds 65 = .ok (.if_icmp .ge 40, 3) := by decide +kernel
theorem dX5_odds_68 : decode cX5_odds 68 = .ok (.aload_n 0, 1) := by decide +kernel
theorem dX5_odds_69 : decode cX5_odds 69 = .ok (.getfield 44, 3) := by decide +kernel
theorem dX5_odds_72 : decode cX5_odds 72 = .ok (.aload_n 0, 1) := by decide +kernel
theorem dX5_odds_73 : decode cX5_odds 73 = .ok (.getfield 10, 3) := by decide +kernel
theorem dX5_odds_76 : decode cX5_odds 76 = .ok (.getfield 82, 3) := by decide +kernel
theorem dX5_odds_79 : decode cX5_odds 79 = .ok (.iload 6, 2) := by decide +kernel
theorem dX5_odds_81 : decode cX5_odds 81 = .ok (.invokevirtual 209, 3) := by decide +kernel
theorem dX5_odds_84 : decode cX5_odds 84 = .ok (.iload_n 3, 1) := by decide +kernel
theorem dX5_odds_85 : decode cX5_odds 85 = .ok (.if_icmp .lt 14, 3) := by decide +kernel
theorem dX5_odds_88 : decode cX5_odds 88 = .ok (.iload 5, 2) := by decide +kernel
theorem dX5_odds_90 : decode cX5_odds 90 = .ok (.iload 6, 2) := by decide +kernel
theorem dX5_odds_92 : decode cX5_odds 92 = .ok (.iload_n 1, 1) := by decide +kernel
theorem dX5_odds_93 : decode cX5_odds 93 = .ok (.invokestatic 213, 3) := by decide +kernel
theorem dX5_odds_96 : decode cX5_odds 96 = .ok (.iadd, 1) := by decide +kernel
theorem dX5_odds_97 : decode cX5_odds 97 = .ok (.istore 5, 2) := by decide +kernel
theorem dX5_odds_99 : decode cX5_odds 99 = .ok (.iinc 6 1, 3) := by decide +kernel
theorem dX5_odds_102 : decode cX5_odds 102 = .ok (.goto (-41), 3) := by decide +kernel
theorem dX5_odds_105 : decode cX5_odds 105 = .ok (.iload 5, 2) := by decide +kernel
theorem dX5_odds_107 : decode cX5_odds 107 = .ok (.sipush 10000, 3) := by decide +kernel
theorem dX5_odds_110 : decode cX5_odds 110 = .ok (.iload 4, 2) := by decide +kernel
theorem dX5_odds_112 : decode cX5_odds 112 = .ok (.invokestatic 195, 3) := by decide +kernel
theorem dX5_odds_115 : decode cX5_odds 115 = .ok (.ireturn, 1) := by decide +kernel
set_option maxRecDepth 20000 in
theorem ggX5_sees_X5_isImage : GoodIn wsX5_sees wsX5_isImage := goodIn_r _ [6, 7, 8, 9, 10, 11, 12, 5, 13] (by decide +kernel) (by decide +kernel)
set_option maxRecDepth 20000 in
theorem gX5_sees_X5_isImage : GoodIn wsX5_sees (va_wsS RX5 130 yX5_isImage wsX5_isImage) := goodIn_app (goodIn_of _ (by decide +kernel)) ggX5_sees_X5_isImage
set_option maxRecDepth 20000 in
theorem ggX5_sees_X5_isWithin : GoodIn wsX5_sees wsX5_isWithin := goodIn_r _ [13] (by decide +kernel) (by decide +kernel)
set_option maxRecDepth 20000 in
theorem gX5_sees_X5_isWithin : GoodIn wsX5_sees (va_wsS RX5 55 yX5_isWithin wsX5_isWithin) := goodIn_app (goodIn_of _ (by decide +kernel)) ggX5_sees_X5_isWithin
set_option maxRecDepth 20000 in
theorem ggX5_sees_X1_addSeen : GoodIn wsX5_sees wsX1_addSeen := goodIn_r _ [18, 19, 20, 21, 22, 31, 32, 33, 34, 35, 36, 37, 38] (by decide +kernel) (by decide +kernel)
set_option maxRecDepth 20000 in
theorem gX5_sees_X1_addSeen : GoodIn wsX5_sees (wsV RX5 216 RX1 yX1_addSeen wsX1_addSeen) := goodIn_app (goodIn_of _ (by decide +kernel)) ggX5_sees_X1_addSeen
theorem dX5_sees_0 : decode cX5_sees 0 = .ok (.iload_n 1, 1) := by decide +kernel
theorem dX5_sees_1 : decode cX5_sees 1 = .ok (.iload_n 2, 1) := by decide +kernel
theorem dX5_sees_2 : decode cX5_sees 2 = .ok (.invokestatic 130, 3) := by decide +kernel
theorem dX5_sees_5 : decode cX5_sees 5 = .ok (.ifCond .eq 14, 3) := by decide +kernel
theorem dX5_sees_8 : decode cX5_sees 8 = .ok (.iload_n 3, 1) := by decide +kernel
theorem dX5_sees_9 : decode cX5_sees 9 = .ok (.iconst 0, 1) := by decide +kernel
theorem dX5_sees_10 : decode cX5_sees 10 = .ok (.sipush 9999, 3) := by decide +kernel
theorem dX5_sees_13 : decode cX5_sees 13 = .ok (.invokestatic 55, 3) := by decide +kernel
theorem dX5_sees_16 : decode cX5_sees 16 = .ok (.ifCond .ne 5, 3) := by decide +kernel
theorem dX5_sees_19 : decode cX5_sees 19 = .ok (.iconst (-1), 1) := by decide +kernel
theorem dX5_sees_20 : decode cX5_sees 20 = .ok (.ireturn, 1) := by decide +kernel
theorem dX5_sees_21 : decode cX5_sees 21 = .ok (.aload_n 0, 1) := by decide +kernel
theorem dX5_sees_22 : decode cX5_sees 22 = .ok (.getfield 51, 3) := by decide +kernel
theorem dX5_sees_25 : decode cX5_sees 25 = .ok (.iload_n 1, 1) := by decide +kernel
theorem dX5_sees_26 : decode cX5_sees 26 = .ok (.iload_n 2, 1) := by decide +kernel
theorem dX5_sees_27 : decode cX5_sees 27 = .ok (.iload_n 3, 1) := by decide +kernel
theorem dX5_sees_28 : decode cX5_sees 28 = .ok (.invokevirtual 216, 3) := by decide +kernel
theorem dX5_sees_31 : decode cX5_sees 31 = .ok (.ifCond .eq 13, 3) := by decide +kernel
theorem dX5_sees_34 : decode cX5_sees 34 = .ok (.aload_n 0, 1) := by decide +kernel
theorem dX5_sees_35 : decode cX5_sees 35 = .ok (.getfield 51, 3) := by decide +kernel
theorem dX5_sees_38 : decode cX5_sees 38 = .ok (.getfield 76, 3) := by decide +kernel
theorem dX5_sees_41 : decode cX5_sees 41 = .ok (.goto 5, 3) := by decide +kernel
theorem dX5_sees_44 : decode cX5_sees 44 = .ok (.bipush (-3), 2) := by decide +kernel
theorem dX5_sees_46 : decode cX5_sees 46 = .ok (.ireturn, 1) := by decide +kernel
theorem dX5_forget_0 : decode cX5_forget 0 = .ok (.aload_n 0, 1) := by decide +kernel
theorem dX5_forget_1 : decode cX5_forget 1 = .ok (.getfield 51, 3) := by decide +kernel
theorem dX5_forget_4 : decode cX5_forget 4 = .ok (.getfield 76, 3) := by decide +kernel
theorem dX5_forget_7 : decode cX5_forget 7 = .ok (.istore_n 1, 1) := by decide +kernel
theorem dX5_forget_8 : decode cX5_forget 8 = .ok (.aload_n 0, 1) := by decide +kernel
theorem dX5_forget_9 : decode cX5_forget 9 = .ok (.getfield 51, 3) := by decide +kernel
theorem dX5_forget_12 : decode cX5_forget 12 = .ok (.iconst 0, 1) := by decide +kernel
theorem dX5_forget_13 : decode cX5_forget 13 = .ok (.putfield 76, 3) := by decide +kernel
theorem dX5_forget_16 : decode cX5_forget 16 = .ok (.iload_n 1, 1) := by decide +kernel
theorem dX5_forget_17 : decode cX5_forget 17 = .ok (.ireturn, 1) := by decide +kernel
set_option maxRecDepth 20000 in
theorem ggX5_unseen_X5_isWithin : GoodIn wsX5_unseen wsX5_isWithin := goodIn_r _ [9] (by decide +kernel) (by decide +kernel)
set_option maxRecDepth 20000 in
theorem gX5_unseen_X5_isWithin : GoodIn wsX5_unseen (va_wsS RX5 55 yX5_isWithin wsX5_isWithin) := goodIn_app (goodIn_of _ (by decide +kernel)) ggX5_unseen_X5_isWithin
set_option maxRecDepth 20000 in
theorem ggX5_unseen_X1_findPlaces : GoodIn wsX5_unseen wsX1_findPlaces := goodIn_r _ [14, 15, 16, 17, 18, 19, 20, 21, 22, 13, 23, 24, 25, 26, 27, 28, 29, 30, 31, 32, 33, 34, 35, 36, 37, 38, 39, 8, 40, 41, 42, 43, 44, 45, 46, 47, 48, 49, 50, 59, 60, 61, 62, 63, 64, 65, 66, 67, 68, 69, 70, 71, 72, 73, 74, 75, 76, 77, 78] (by decide +kernel) (by decide +kernel)
set_option maxRecDepth 20000 in
theorem gX5_unseen_X1_findPlaces : GoodIn wsX5_unseen (wsV RX5 219 RX1 yX1_findPlaces wsX1_findPlaces) := goodIn_app (goodIn_of _ (by decide +kernel)) ggX5_unseen_X1_findPlaces
theorem dX5_unseen_0 : decode cX5_unseen 0 = .ok (.iload_n 1, 1) := by decide +kernel
theorem dX5_unseen_1 : decode cX5_unseen 1 = .ok (.iconst 0, 1) := by decide +kernel
theorem dX5_unseen_2 : decode cX5_unseen 2 = .ok (.iconst 1, 1) := by decide +kernel
theorem dX5_unseen_3 : decode cX5_unseen 3 = .ok (.invokestatic 55, 3) := by decide +kernel
theorem dX5_unseen_6 : decode cX5_unseen 6 = .ok (.ifCond .ne 5, 3) := by decide +kernel
theorem dX5_unseen_9 : decode cX5_unseen 9 = .ok (.iconst (-1), 1) := by decide +kernel
theorem dX5_unseen_10 : decode cX5_unseen 10 = .ok (.ireturn, 1) := by decide +kernel
theorem dX5_unseen_11 : decode cX5_unseen 11 = .ok (.aload_n 0, 1) := by decide +kernel
theorem dX5_unseen_12 : decode cX5_unseen 12 = .ok (.getfield 51, 3) := by decide +kernel
theorem dX5_unseen_15 : decode cX5_unseen 15 = .ok (.aload_n 0, 1) := by decide +kernel
theorem dX5_unseen_16 : decode cX5_unseen 16 = .ok (.getfield 10, 3) := by decide +kernel
theorem dX5_unseen_19 : decode cX5_unseen 19 = .ok (.invokevirtual 219, 3) := by decide +kernel
theorem dX5_unseen_22 : decode cX5_unseen 22 = .ok (.iload_n 1, 1) := by decide +kernel
theorem dX5_unseen_23 : decode cX5_unseen 23 = .ok (.ifCond .ne 11, 3) := by decide +kernel
theorem dX5_unseen_26 : decode cX5_unseen 26 = .ok (.aload_n 0, 1) := by decide +kernel
theorem dX5_unseen_27 : decode cX5_unseen 27 = .ok (.getfield 51, 3) := by decide +kernel
theorem dX5_unseen_30 : decode cX5_unseen 30 = .ok (.getfield 222, 3) := by decide +kernel
theorem dX5_unseen_33 : decode cX5_unseen 33 = .ok (.ireturn, 1) := by decide +kernel
theorem dX5_unseen_34 : decode cX5_unseen 34 = .ok (.aload_n 0, 1) := by decide +kernel
theorem dX5_unseen_35 : decode cX5_unseen 35 = .ok (.getfield 51, 3) := by decide +kernel
theorem dX5_unseen_38 : decode cX5_unseen 38 = .ok (.getfield 222, 3) := by decide +kernel
theorem dX5_unseen_41 : decode cX5_unseen 41 = .ok (.ifCond .le 28, 3) := by decide +kernel
theorem dX5_unseen_44 : decode cX5_unseen 44 = .ok (.bipush 100, 2) := by decide +kernel
theorem dX5_unseen_46 : decode cX5_unseen 46 = .ok (.aload_n 0, 1) := by decide +kernel
theorem dX5_unseen_47 : decode cX5_unseen 47 = .ok (.getfield 51, 3) := by decide +kernel
theorem dX5_unseen_50 : decode cX5_unseen 50 = .ok (.getfield 225, 3) := by decide +kernel
theorem dX5_unseen_53 : decode cX5_unseen 53 = .ok (.iconst 0, 1) := by decide +kernel
theorem dX5_unseen_54 : decode cX5_unseen 54 = .ok (.iaload, 1) := by decide +kernel
theorem dX5_unseen_55 : decode cX5_unseen 55 = .ok (.imul, 1) := by decide +kernel
theorem dX5_unseen_56 : decode cX5_unseen 56 = .ok (.aload_n 0, 1) := by decide +kernel
theorem dX5_unseen_57 : decode cX5_unseen 57 = .ok (.getfield 51, 3) := by decide +kernel
theorem dX5_unseen_60 : decode cX5_unseen 60 = .ok (.getfield 228, 3) := by decide +kernel
theorem dX5_unseen_63 : decode cX5_unseen 63 = .ok (.iconst 0, 1) := by decide +kernel
theorem dX5_unseen_64 : decode cX5_unseen 64 = .ok (.iaload, 1) := by decide +kernel
theorem dX5_unseen_65 : decode cX5_unseen 65 = .ok (.iadd, 1) := by decide +kernel
theorem dX5_unseen_66 : decode cX5_unseen 66 = .ok (.goto 5, 3) := by decide +kernel
theorem dX5_unseen_69 : decode cX5_unseen 69 = .ok (.bipush (-9), 2) := by decide +kernel
theorem dX5_unseen_71 : decode cX5_unseen 71 = .ok (.ireturn, 1) := by decide +kernel
set_option maxRecDepth 20000 in
theorem ggX5_listen_X1_findPlaces : GoodIn wsX5_listen wsX1_findPlaces := goodIn_r _ [8, 9, 10, 11, 12, 13, 14, 15, 16, 7, 17, 18, 19, 20, 21, 22, 23, 24, 25, 26, 27, 28, 29, 30, 31, 32, 33, 34, 35, 36, 37, 38, 39, 40, 41, 42, 43, 44, 45, 75, 76, 77, 78, 79, 80, 81, 82, 83, 84, 85, 86, 87, 88, 89, 90, 91, 92, 93, 94] (by decide +kernel) (by decide +kernel)
set_option maxRecDepth 20000 in
theorem gX5_listen_X1_findPlaces : GoodIn wsX5_listen (wsV RX5 219 RX1 yX1_findPlaces wsX1_findPlaces) := goodIn_app (goodIn_of _ (by decide +kernel)) ggX5_listen_X1_findPlaces
set_option maxRecDepth 20000 in
theorem ggX5_listen_X1_tellingImage : GoodIn wsX5_listen wsX1_tellingImage := goodIn_r _ [49, 50, 51, 52, 53, 54, 55, 56, 57, 58, 59, 60, 61, 7, 62, 9, 12, 13, 63, 28, 29, 25, 30, 31, 32, 33, 34, 35, 64, 37, 38, 39, 40, 41, 42, 43, 44, 45, 65, 66, 75, 76, 77, 78, 79, 80, 81, 82, 83, 84, 85, 86, 87, 88, 89, 90, 91, 92, 93, 94] (by decide +kernel) (by decide +kernel)
set_option maxRecDepth 20000 in
theorem gX5_listen_X1_tellingImage : GoodIn wsX5_listen (wsV RX5 231 RX1 yX1_tellingImage wsX1_tellingImage) := goodIn_app (goodIn_of _ (by decide +kernel)) ggX5_listen_X1_tellingImage
theorem dX5_listen_0 : decode cX5_listen 0 = .ok (.aload_n 0, 1) := by decide +kernel
theorem dX5_listen_1 : decode cX5_listen 1 = .ok (.getfield 51, 3) := by decide +kernel
theorem dX5_listen_4 : decode cX5_listen 4 = .ok (.aload_n 0, 1) := by decide +kernel
theorem dX5_listen_5 : decode cX5_listen 5 = .ok (.getfield 10, 3) := by decide +kernel
theorem dX5_listen_8 : decode cX5_listen 8 = .ok (.invokevirtual 219, 3) := by decide +kernel
theorem dX5_listen_11 : decode cX5_listen 11 = .ok (.aload_n 0, 1) := by decide +kernel
theorem dX5_listen_12 : decode cX5_listen 12 = .ok (.getfield 51, 3) := by decide +kernel
theorem dX5_listen_15 : decode cX5_listen 15 = .ok (.getfield 222, 3) := by decide +kernel
theorem dX5_listen_18 : decode cX5_listen 18 = .ok (.iconst 1, 1) := by decide +kernel
theorem dX5_listen_19 : decode cX5_listen 19 = .ok (.if_icmp .le 17, 3) := by decide +kernel
theorem dX5_listen_22 : decode cX5_listen 22 = .ok (.aload_n 0, 1) := by decide +kernel
theorem dX5_listen_23 : decode cX5_listen 23 = .ok (.getfield 51, 3) := by decide +kernel
theorem dX5_listen_26 : decode cX5_listen 26 = .ok (.aload_n 0, 1) := by decide +kernel
theorem dX5_listen_27 : decode cX5_listen 27 = .ok (.getfield 10, 3) := by decide +kernel
theorem dX5_listen_30 : decode cX5_listen 30 = .ok (.invokevirtual 231, 3) := by decide +kernel
theorem dX5_listen_33 : decode cX5_listen 33 = .ok (.goto 5, 3) := by decide +kernel
theorem dX5_listen_36 : decode cX5_listen 36 = .ok (.bipush (-9), 2) := by decide +kernel
theorem dX5_listen_38 : decode cX5_listen 38 = .ok (.ireturn, 1) := by decide +kernel
set_option maxRecDepth 20000 in
theorem ggX5_keep_X5_isWithin : GoodIn wsX5_keep wsX5_isWithin := goodIn_r _ [7] (by decide +kernel) (by decide +kernel)
set_option maxRecDepth 20000 in
theorem gX5_keep_X5_isWithin : GoodIn wsX5_keep (va_wsS RX5 55 yX5_isWithin wsX5_isWithin) := goodIn_app (goodIn_of _ (by decide +kernel)) ggX5_keep_X5_isWithin
set_option maxRecDepth 20000 in
theorem ggX5_keep_X3_copyFrom : GoodIn wsX5_keep wsX3_copyFrom := goodIn_r _ [12, 13, 14, 15, 16, 17, 18, 19, 20, 21, 22, 23, 24, 25, 26, 27, 28, 41, 42, 43, 44, 45, 46, 47, 48, 49, 50, 51, 52] (by decide +kernel) (by decide +kernel)
set_option maxRecDepth 20000 in
theorem gX5_keep_X3_copyFrom : GoodIn wsX5_keep (wsV RX5 71 RX3 yX3_copyFrom wsX3_copyFrom) := goodIn_app (goodIn_of _ (by decide +kernel)) ggX5_keep_X3_copyFrom
set_option maxRecDepth 20000 in
theorem ggX5_keep_X3_sourceCode : GoodIn wsX5_keep wsX3_sourceCode := goodIn_r _ [32, 15, 16, 41, 42, 43, 44, 45, 46, 47, 48, 49, 50, 51, 52] (by decide +kernel) (by decide +kernel)
set_option maxRecDepth 20000 in
theorem gX5_keep_X3_sourceCode : GoodIn wsX5_keep (wsV RX5 123 RX3 yX3_sourceCode wsX3_sourceCode) := goodIn_app (goodIn_of _ (by decide +kernel)) ggX5_keep_X3_sourceCode
theorem dX5_keep_0 : decode cX5_keep 0 = .ok (.iload_n 1, 1) := by decide +kernel
theorem dX5_keep_1 : decode cX5_keep 1 = .ok (.iconst 0, 1) := by decide +kernel
theorem dX5_keep_2 : decode cX5_keep 2 = .ok (.iconst 1, 1) := by decide +kernel
theorem dX5_keep_3 : decode cX5_keep 3 = .ok (.invokestatic 55, 3) := by decide +kernel
theorem dX5_keep_6 : decode cX5_keep 6 = .ok (.ifCond .ne 5, 3) := by decide +kernel
theorem dX5_keep_9 : decode cX5_keep 9 = .ok (.iconst (-1), 1) := by decide +kernel
theorem dX5_keep_10 : decode cX5_keep 10 = .ok (.ireturn, 1) := by decide +kernel
theorem dX5_keep_11 : decode cX5_keep 11 = .ok (.aload_n 0, 1) := by decide +kernel
theorem dX5_keep_12 : decode cX5_keep 12 = .ok (.getfield 19, 3) := by decide +kernel
theorem dX5_keep_15 : decode cX5_keep 15 = .ok (.iload_n 1, 1) := by decide +kernel
theorem dX5_keep_16 : decode cX5_keep 16 = .ok (.aaload, 1) := by decide +kernel
theorem dX5_keep_17 : decode cX5_keep 17 = .ok (.aload_n 0, 1) := by decide +kernel
theorem dX5_keep_18 : decode cX5_keep 18 = .ok (.getfield 10, 3) := by decide +kernel
theorem dX5_keep_21 : decode cX5_keep 21 = .ok (.invokevirtual 71, 3) := by decide +kernel
theorem dX5_keep_24 : decode cX5_keep 24 = .ok (.aload_n 0, 1) := by decide +kernel
theorem dX5_keep_25 : decode cX5_keep 25 = .ok (.getfield 23, 3) := by decide +kernel
theorem dX5_keep_28 : decode cX5_keep 28 = .ok (.iload_n 1, 1) := by decide +kernel
theorem dX5_keep_29 : decode cX5_keep 29 = .ok (.iconst 1, 1) := by decide +kernel
theorem dX5_keep_30 : decode cX5_keep 30 = .ok (.bastore, 1) := by decide +kernel
theorem dX5_keep_31 : decode cX5_keep 31 = .ok (.aload_n 0, 1) := by decide +kernel
theorem dX5_keep_32 : decode cX5_keep 32 = .ok (.getfield 10, 3) := by decide +kernel
theorem dX5_keep_35 : decode cX5_keep 35 = .ok (.invokevirtual 123, 3) := by decide +kernel
theorem dX5_keep_38 : decode cX5_keep 38 = .ok (.ireturn, 1) := by decide +kernel
set_option maxRecDepth 20000 in
theorem ggX5_back_X5_isWithin : GoodIn wsX5_back wsX5_isWithin := goodIn_r _ [9] (by decide +kernel) (by decide +kernel)
set_option maxRecDepth 20000 in
theorem gX5_back_X5_isWithin : GoodIn wsX5_back (va_wsS RX5 55 yX5_isWithin wsX5_isWithin) := goodIn_app (goodIn_of _ (by decide +kernel)) ggX5_back_X5_isWithin
set_option maxRecDepth 20000 in
theorem ggX5_back_X3_copyFrom : GoodIn wsX5_back wsX3_copyFrom := goodIn_r _ [14, 15, 16, 17, 18, 19, 20, 21, 22, 23, 24, 25, 26, 27, 28, 29, 30, 48, 49, 50, 51, 52, 53, 54, 55, 56, 57, 58, 59] (by decide +kernel) (by decide +kernel)
set_option maxRecDepth 20000 in
theorem gX5_back_X3_copyFrom : GoodIn wsX5_back (wsV RX5 71 RX3 yX3_copyFrom wsX3_copyFrom) := goodIn_app (goodIn_of _ (by decide +kernel)) ggX5_back_X3_copyFrom
set_option maxRecDepth 20000 in
theorem ggX5_back_X3_sourceCode : GoodIn wsX5_back wsX3_sourceCode := goodIn_r _ [34, 17, 18, 48, 49, 50, 51, 52, 53, 54, 55, 56, 57, 58, 59] (by decide +kernel) (by decide +kernel)
set_option maxRecDepth 20000 in
theorem gX5_back_X3_sourceCode : GoodIn wsX5_back (wsV RX5 123 RX3 yX3_sourceCode wsX3_sourceCode) := goodIn_app (goodIn_of _ (by decide +kernel)) ggX5_back_X3_sourceCode
theorem dX5_back_0 : decode cX5_back 0 = .ok (.iload_n 1, 1) := by decide +kernel
theorem dX5_back_1 : decode cX5_back 1 = .ok (.iconst 0, 1) := by decide +kernel
theorem dX5_back_2 : decode cX5_back 2 = .ok (.iconst 1, 1) := by decide +kernel
theorem dX5_back_3 : decode cX5_back 3 = .ok (.invokestatic 55, 3) := by decide +kernel
theorem dX5_back_6 : decode cX5_back 6 = .ok (.ifCond .ne 5, 3) := by decide +kernel
theorem dX5_back_9 : decode cX5_back 9 = .ok (.iconst (-1), 1) := by decide +kernel
theorem dX5_back_10 : decode cX5_back 10 = .ok (.ireturn, 1) := by decide +kernel
theorem dX5_back_11 : decode cX5_back 11 = .ok (.aload_n 0, 1) := by decide +kernel
theorem dX5_back_12 : decode cX5_back 12 = .ok (.getfield 23, 3) := by decide +kernel
theorem dX5_back_15 : decode cX5_back 15 = .ok (.iload_n 1, 1) := by decide +kernel
theorem dX5_back_16 : decode cX5_back 16 = .ok (.baload, 1) := by decide +kernel
theorem dX5_back_17 : decode cX5_back 17 = .ok (.ifCond .ne 6, 3) := by decide +kernel
theorem dX5_back_20 : decode cX5_back 20 = .ok (.bipush (-2), 2) := by decide +kernel
theorem dX5_back_22 : decode cX5_back 22 = .ok (.ireturn, 1) := by decide +kernel
theorem dX5_back_23 : decode cX5_back 23 = .ok (.aload_n 0, 1) := by decide +kernel
theorem dX5_back_24 : decode cX5_back 24 = .ok (.getfield 10, 3) := by decide +kernel
theorem dX5_back_27 : decode cX5_back 27 = .ok (.aload_n 0, 1) := by decide +kernel
theorem dX5_back_28 : decode cX5_back 28 = .ok (.getfield 19, 3) := by decide +kernel
theorem dX5_back_31 : decode cX5_back 31 = .ok (.iload_n 1, 1) := by decide +kernel
theorem dX5_back_32 : decode cX5_back 32 = .ok (.aaload, 1) := by decide +kernel
theorem dX5_back_33 : decode cX5_back 33 = .ok (.invokevirtual 71, 3) := by decide +kernel
theorem dX5_back_36 : decode cX5_back 36 = .ok (.aload_n 0, 1) := by decide +kernel
theorem dX5_back_37 : decode cX5_back 37 = .ok (.getfield 37, 3) := by decide +kernel
theorem dX5_back_40 : decode cX5_back 40 = .ok (.iconst 0, 1) := by decide +kernel
theorem dX5_back_41 : decode cX5_back 41 = .ok (.putfield 75, 3) := by decide +kernel
theorem dX5_back_44 : decode cX5_back 44 = .ok (.aload_n 0, 1) := by decide +kernel
theorem dX5_back_45 : decode cX5_back 45 = .ok (.getfield 10, 3) := by decide +kernel
theorem dX5_back_48 : decode cX5_back 48 = .ok (.invokevirtual 123, 3) := by decide +kernel
theorem dX5_back_51 : decode cX5_back 51 = .ok (.ireturn, 1) := by decide +kernel
theorem dX5_count_0 : decode cX5_count 0 = .ok (.iload_n 1, 1) := by decide +kernel
theorem dX5_count_1 : decode cX5_count 1 = .ok (.tableswitch 123 0 8 #[51, 59, 67, 75, 83, 91, 99, 107, 115], 51) := by decide +kernel
theorem dX5_count_52 : decode cX5_count 52 = .ok (.aload_n 0, 1) := by decide +kernel
theorem dX5_count_53 : decode cX5_count 53 = .ok (.getfield 10, 3) := by decide +kernel
theorem dX5_count_56 : decode cX5_count 56 = .ok (.getfield 114, 3) := by decide +kernel
theorem dX5_count_59 : decode cX5_count 59 = .ok (.ireturn, 1) := by decide +kernel
theorem dX5_count_60 : decode cX5_count 60 = .ok (.aload_n 0, 1) := by decide +kernel
theorem dX5_count_61 : decode cX5_count 61 = .ok (.getfield 10, 3) := by decide +kernel
theorem dX5_count_64 : decode cX5_count 64 = .ok (.getfield 111, 3) := by decide +kernel
theorem dX5_count_67 : decode cX5_count 67 = .ok (.ireturn, 1) := by decide +kernel
theorem dX5_count_68 : decode cX5_count 68 = .ok (.aload_n 0, 1) := by decide +kernel
theorem dX5_count_69 : decode cX5_count 69 = .ok (.getfield 10, 3) := by decide +kernel
theorem dX5_count_72 : decode cX5_count 72 = .ok (.getfield 117, 3) := by decide +kernel
theorem dX5_count_75 : decode cX5_count 75 = .ok (.ireturn, 1) := by decide +kernel
theorem dX5_count_76 : decode cX5_count 76 = .ok (.aload_n 0, 1) := by decide +kernel
theorem dX5_count_77 : decode cX5_count 77 = .ok (.getfield 10, 3) := by decide +kernel
theorem dX5_count_80 : decode cX5_count 80 = .ok (.getfield 120, 3) := by decide +kernel
theorem dX5_count_83 : decode cX5_count 83 = .ok (.ireturn, 1) := by decide +kernel
theorem dX5_count_84 : decode cX5_count 84 = .ok (.aload_n 0, 1) := by decide +kernel
theorem dX5_count_85 : decode cX5_count 85 = .ok (.getfield 10, 3) := by decide +kernel
theorem dX5_count_88 : decode cX5_count 88 = .ok (.getfield 202, 3) := by decide +kernel
theorem dX5_count_91 : decode cX5_count 91 = .ok (.ireturn, 1) := by decide +kernel
theorem dX5_count_92 : decode cX5_count 92 = .ok (.aload_n 0, 1) := by decide +kernel
theorem dX5_count_93 : decode cX5_count 93 = .ok (.getfield 10, 3) := by decide +kernel
theorem dX5_count_96 : decode cX5_count 96 = .ok (.getfield 234, 3) := by decide +kernel
theorem dX5_count_99 : decode cX5_count 99 = .ok (.ireturn, 1) := by decide +kernel
theorem dX5_count_100 : decode cX5_count 100 = .ok (.aload_n 0, 1) := by decide +kernel
theorem dX5_count_101 : decode cX5_count 101 = .ok (.getfield 51, 3) := by decide +kernel
theorem dX5_count_104 : decode cX5_count 104 = .ok (.getfield 76, 3) := by decide +kernel
theorem dX5_count_107 : decode cX5_count 107 = .ok (.ireturn, 1) := by decide +kernel
theorem dX5_count_108 : decode cX5_count 108 = .ok (.aload_n 0, 1) := by decide +kernel
theorem dX5_count_109 : decode cX5_count 109 = .ok (.getfield 30, 3) := by decide +kernel
theorem dX5_count_112 : decode cX5_count 112 = .ok (.getfield 63, 3) := by decide +kernel
theorem dX5_count_115 : decode cX5_count 115 = .ok (.ireturn, 1) := by decide +kernel
theorem dX5_count_116 : decode cX5_count 116 = .ok (.aload_n 0, 1) := by decide +kernel
theorem dX5_count_117 : decode cX5_count 117 = .ok (.getfield 37, 3) := by decide +kernel
theorem dX5_count_120 : decode cX5_count 120 = .ok (.getfield 75, 3) := by decide +kernel
theorem dX5_count_123 : decode cX5_count 123 = .ok (.ireturn, 1) := by decide +kernel
theorem dX5_count_124 : decode cX5_count 124 = .ok (.iconst (-1), 1) := by decide +kernel
theorem dX5_count_125 : decode cX5_count 125 = .ok (.ireturn, 1) := by decide +kernel
theorem dX5_dropKept_0 : decode cX5_dropKept 0 = .ok (.iconst 0, 1) := by decide +kernel
theorem dX5_dropKept_1 : decode cX5_dropKept 1 = .ok (.istore_n 1, 1) := by decide +kernel
theorem dX5_dropKept_2 : decode cX5_dropKept 2 = .ok (.iload_n 1, 1) := by decide +kernel
theorem dX5_dropKept_3 : decode cX5_dropKept 3 = .ok (.iconst 2, 1) := by decide +kernel
theorem dX5_dropKept_4 : decode cX5_dropKept 4 = .ok (.if_icmp .ge 16, 3) := by decide +kernel
theorem dX5_dropKept_7 : decode cX5_dropKept 7 = .ok (.aload_n 0, 1) := by decide +kernel
theorem dX5_dropKept_8 : decode cX5_dropKept 8 = .ok (.getfield 23, 3) := by decide +kernel
theorem dX5_dropKept_11 : decode cX5_dropKept 11 = .ok (.iload_n 1, 1) := by decide +kernel
theorem dX5_dropKept_12 : decode cX5_dropKept 12 = .ok (.iconst 0, 1) := by decide +kernel
theorem dX5_dropKept_13 : decode cX5_dropKept 13 = .ok (.bastore, 1) := by decide +kernel
theorem dX5_dropKept_14 : decode cX5_dropKept 14 = .ok (.iinc 1 1, 3) := by decide +kernel
theorem dX5_dropKept_17 : decode cX5_dropKept 17 = .ok (.goto (-15), 3) := by decide +kernel
theorem dX5_dropKept_20 : decode cX5_dropKept 20 = .ok (.return_, 1) := by decide +kernel
theorem dX5_isWithin_0 : decode cX5_isWithin 0 = .ok (.iload_n 0, 1) := by decide +kernel
theorem dX5_isWithin_1 : decode cX5_isWithin 1 = .ok (.iload_n 1, 1) := by decide +kernel
theorem dX5_isWithin_2 : decode cX5_isWithin 2 = .ok (.if_icmp .lt 12, 3) := by decide +kernel
theorem dX5_isWithin_5 : decode cX5_isWithin 5 = .ok (.iload_n 0, 1) := by decide +kernel
theorem dX5_isWithin_6 : decode cX5_isWithin 6 = .ok (.iload_n 2, 1) := by decide +kernel
theorem dX5_isWithin_7 : decode cX5_isWithin 7 = .ok (.if_icmp .gt 7, 3) := by decide +kernel
theorem dX5_isWithin_10 : decode cX5_isWithin 10 = .ok (.iconst 1, 1) := by decide +kernel
theorem dX5_isWithin_11 : decode cX5_isWithin 11 = .ok (.goto 4, 3) := by decide +kernel
theorem dX5_isWithin_14 : decode cX5_isWithin 14 = .ok (.iconst 0, 1) := by decide +kernel
theorem dX5_isWithin_15 : decode cX5_isWithin 15 = .ok (.ireturn, 1) := by decide +kernel
set_option maxRecDepth 20000 in
theorem ggX5_isImage_X5_isWithin : GoodIn wsX5_isImage wsX5_isWithin := goodIn_r _ [8] (by decide +kernel) (by decide +kernel)
set_option maxRecDepth 20000 in
theorem gX5_isImage_X5_isWithin : GoodIn wsX5_isImage (va_wsS RX5 55 yX5_isWithin wsX5_isWithin) := goodIn_app (goodIn_of _ (by decide +kernel)) ggX5_isImage_X5_isWithin
theorem dX5_isImage_0 : decode cX5_isImage 0 = .ok (.iload_n 0, 1) := by decide +kernel
theorem dX5_isImage_1 : decode cX5_isImage 1 = .ok (.bipush (-3), 2) := by decide +kernel
theorem dX5_isImage_3 : decode cX5_isImage 3 = .ok (.iconst 3, 1) := by decide +kernel
theorem dX5_isImage_4 : decode cX5_isImage 4 = .ok (.invokestatic 55, 3) := by decide +kernel
theorem dX5_isImage_7 : decode cX5_isImage 7 = .ok (.ifCond .eq 30, 3) := by decide +kernel
theorem dX5_isImage_10 : decode cX5_isImage 10 = .ok (.iload_n 1, 1) := by decide +kernel
theorem dX5_isImage_11 : decode cX5_isImage 11 = .ok (.bipush (-3), 2) := by decide +kernel
theorem dX5_isImage_13 : decode cX5_isImage 13 = .ok (.iconst 3, 1) := by decide +kernel
theorem dX5_isImage_14 : decode cX5_isImage 14 = .ok (.invokestatic 55, 3) := by decide +kernel
theorem dX5_isImage_17 : decode cX5_isImage 17 = .ok (.ifCond .eq 20, 3) := by decide +kernel
theorem dX5_isImage_20 : decode cX5_isImage 20 = .ok (.iload_n 0, 1) := by decide +kernel
theorem dX5_isImage_21 : decode cX5_isImage 21 = .ok (.invokestatic 142, 3) := by decide +kernel
theorem dX5_isImage_24 : decode cX5_isImage 24 = .ok (.iload_n 1, 1) := by decide +kernel
theorem dX5_isImage_25 : decode cX5_isImage 25 = .ok (.invokestatic 142, 3) := by decide +kernel
theorem dX5_isImage_28 : decode cX5_isImage 28 = .ok (.iadd, 1) := by decide +kernel
theorem dX5_isImage_29 : decode cX5_isImage 29 = .ok (.iconst 3, 1) := by decide +kernel
theorem dX5_isImage_30 : decode cX5_isImage 30 = .ok (.if_icmp .gt 7, 3) := by decide +kernel
theorem dX5_isImage_33 : decode cX5_isImage 33 = .ok (.iconst 1, 1) := by decide +kernel
theorem dX5_isImage_34 : decode cX5_isImage 34 = .ok (.goto 4, 3) := by decide +kernel
theorem dX5_isImage_37 : decode cX5_isImage 37 = .ok (.iconst 0, 1) := by decide +kernel
theorem dX5_isImage_38 : decode cX5_isImage 38 = .ok (.ireturn, 1) := by decide +kernel
theorem dX5_imageCode_0 : decode cX5_imageCode 0 = .ok (.bipush 100, 2) := by decide +kernel
theorem dX5_imageCode_2 : decode cX5_imageCode 2 = .ok (.iload_n 0, 1) := by decide +kernel
theorem dX5_imageCode_3 : decode cX5_imageCode 3 = .ok (.iconst 3, 1) := by decide +kernel
theorem dX5_imageCode_4 : decode cX5_imageCode 4 = .ok (.iadd, 1) := by decide +kernel
theorem dX5_imageCode_5 : decode cX5_imageCode 5 = .ok (.imul, 1) := by decide +kernel
theorem dX5_imageCode_6 : decode cX5_imageCode 6 = .ok (.iload_n 1, 1) := by decide +kernel
theorem dX5_imageCode_7 : decode cX5_imageCode 7 = .ok (.iadd, 1) := by decide +kernel
theorem dX5_imageCode_8 : decode cX5_imageCode 8 = .ok (.iconst 3, 1) := by decide +kernel
theorem dX5_imageCode_9 : decode cX5_imageCode 9 = .ok (.iadd, 1) := by decide +kernel
theorem dX5_imageCode_10 : decode cX5_imageCode 10 = .ok (.ireturn, 1) := by decide +kernel
theorem dX5_mirrored_0 : decode cX5_mirrored 0 = .ok (.iload_n 0, 1) := by decide +kernel
theorem dX5_mirrored_1 : decode cX5_mirrored 1 = .ok (.iload_n 1, 1) := by decide +kernel
theorem dX5_mirrored_2 : decode cX5_mirrored 2 = .ok (.imul, 1) := by decide +kernel
theorem dX5_mirrored_3 : decode cX5_mirrored 3 = .ok (.iload_n 0, 1) := by decide +kernel
theorem dX5_mirrored_4 : decode cX5_mirrored 4 = .ok (.iconst 1, 1) := by decide +kernel
theorem dX5_mirrored_5 : decode cX5_mirrored 5 = .ok (.iand, 1) := by decide +kernel
theorem dX5_mirrored_6 : decode cX5_mirrored 6 = .ok (.ifCond .ne 7, 3) := by decide +kernel
theorem dX5_mirrored_9 : decode cX5_mirrored 9 = .ok (.iload_n 2, 1) := by decide +kernel
theorem dX5_mirrored_10 : decode cX5_mirrored 10 = .ok (.goto 6, 3) := by decide +kernel
theorem dX5_mirrored_13 : decode cX5_mirrored 13 = .ok (.iload_n 1, 1) := by decide +kernel
theorem dX5_mirrored_14 : decode cX5_mirrored 14 = .ok (.iload_n 2, 1) := by decide +kernel
theorem dX5_mirrored_15 : decode cX5_mirrored 15 = .ok (.isub, 1) := by decide +kernel
theorem dX5_mirrored_16 : decode cX5_mirrored 16 = .ok (.iadd, 1) := by decide +kernel
theorem dX5_mirrored_17 : decode cX5_mirrored 17 = .ok (.ireturn, 1) := by decide +kernel
theorem dX5_farPasses_0 : decode cX5_farPasses 0 = .ok (.iload_n 0, 1) := by decide +kernel
theorem dX5_farPasses_1 : decode cX5_farPasses 1 = .ok (.ifCond .le 11, 3) := by decide +kernel
theorem dX5_farPasses_4 : decode cX5_farPasses 4 = .ok (.iload_n 0, 1) := by decide +kernel
theorem dX5_farPasses_5 : decode cX5_farPasses 5 = .ok (.iconst 1, 1) := by decide +kernel
theorem dX5_farPasses_6 : decode cX5_farPasses 6 = .ok (.iadd, 1) := by decide +kernel
theorem dX5_farPasses_7 : decode cX5_farPasses 7 = .ok (.iconst 2, 1) := by decide +kernel
theorem dX5_farPasses_8 : decode cX5_farPasses 8 = .ok (.idiv, 1) := by decide +kernel
theorem dX5_farPasses_9 : decode cX5_farPasses 9 = .ok (.goto 7, 3) := by decide +kernel
theorem dX5_farPasses_12 : decode cX5_farPasses 12 = .ok (.iload_n 0, 1) := by decide +kernel
theorem dX5_farPasses_13 : decode cX5_farPasses 13 = .ok (.ineg, 1) := by decide +kernel
theorem dX5_farPasses_14 : decode cX5_farPasses 14 = .ok (.iconst 2, 1) := by decide +kernel
theorem dX5_farPasses_15 : decode cX5_farPasses 15 = .ok (.idiv, 1) := by decide +kernel
theorem dX5_farPasses_16 : decode cX5_farPasses 16 = .ok (.ireturn, 1) := by decide +kernel
set_option maxRecDepth 20000 in
theorem ggX5_passes_X5_farPasses : GoodIn wsX5_passes wsX5_farPasses := goodIn_r _ [4] (by decide +kernel) (by decide +kernel)
set_option maxRecDepth 20000 in
theorem gX5_passes_X5_farPasses : GoodIn wsX5_passes (va_wsS RX5 237 yX5_farPasses wsX5_farPasses) := goodIn_app (goodIn_of _ (by decide +kernel)) ggX5_passes_X5_farPasses
theorem dX5_passes_0 : decode cX5_passes 0 = .ok (.iload_n 0, 1) := by decide +kernel
theorem dX5_passes_1 : decode cX5_passes 1 = .ok (.tableswitch 44 0 2 #[27, 33, 38], 27) := by decide +kernel
theorem dX5_passes_28 : decode cX5_passes 28 = .ok (.iload_n 1, 1) := by decide +kernel
theorem dX5_passes_29 : decode cX5_passes 29 = .ok (.ineg, 1) := by decide +kernel
theorem dX5_passes_30 : decode cX5_passes 30 = .ok (.invokestatic 237, 3) := by decide +kernel
theorem dX5_passes_33 : decode cX5_passes 33 = .ok (.ireturn, 1) := by decide +kernel
theorem dX5_passes_34 : decode cX5_passes 34 = .ok (.iload_n 1, 1) := by decide +kernel
theorem dX5_passes_35 : decode cX5_passes 35 = .ok (.invokestatic 237, 3) := by decide +kernel
theorem dX5_passes_38 : decode cX5_passes 38 = .ok (.ireturn, 1) := by decide +kernel
theorem dX5_passes_39 : decode cX5_passes 39 = .ok (.iload_n 2, 1) := by decide +kernel
theorem dX5_passes_40 : decode cX5_passes 40 = .ok (.ineg, 1) := by decide +kernel
theorem dX5_passes_41 : decode cX5_passes 41 = .ok (.invokestatic 237, 3) := by decide +kernel
theorem dX5_passes_44 : decode cX5_passes 44 = .ok (.ireturn, 1) := by decide +kernel
theorem dX5_passes_45 : decode cX5_passes 45 = .ok (.iload_n 2, 1) := by decide +kernel
theorem dX5_passes_46 : decode cX5_passes 46 = .ok (.invokestatic 237, 3) := by decide +kernel
theorem dX5_passes_49 : decode cX5_passes 49 = .ok (.ireturn, 1) := by decide +kernel
theorem dX5_squares_0 : decode cX5_squares 0 = .ok (.iload_n 0, 1) := by decide +kernel
theorem dX5_squares_1 : decode cX5_squares 1 = .ok (.iload_n 0, 1) := by decide +kernel
theorem dX5_squares_2 : decode cX5_squares 2 = .ok (.imul, 1) := by decide +kernel
theorem dX5_squares_3 : decode cX5_squares 3 = .ok (.iload_n 1, 1) := by decide +kernel
theorem dX5_squares_4 : decode cX5_squares 4 = .ok (.iload_n 1, 1) := by decide +kernel
theorem dX5_squares_5 : decode cX5_squares 5 = .ok (.imul, 1) := by decide +kernel
theorem dX5_squares_6 : decode cX5_squares 6 = .ok (.iadd, 1) := by decide +kernel
theorem dX5_squares_7 : decode cX5_squares 7 = .ok (.ireturn, 1) := by decide +kernel
theorem dX5_timeOf_0 : decode cX5_timeOf 0 = .ok (.bipush 100, 2) := by decide +kernel
theorem dX5_timeOf_2 : decode cX5_timeOf 2 = .ok (.iload_n 0, 1) := by decide +kernel
theorem dX5_timeOf_3 : decode cX5_timeOf 3 = .ok (.imul, 1) := by decide +kernel
theorem dX5_timeOf_4 : decode cX5_timeOf 4 = .ok (.istore_n 1, 1) := by decide +kernel
theorem dX5_timeOf_5 : decode cX5_timeOf 5 = .ok (.iconst 0, 1) := by decide +kernel
theorem dX5_timeOf_6 : decode cX5_timeOf 6 = .ok (.istore_n 2, 1) := by decide +kernel
theorem dX5_timeOf_7 : decode cX5_timeOf 7 = .ok (.sipush 512, 3) := by decide +kernel
theorem dX5_timeOf_10 : decode cX5_timeOf 10 = .ok (.istore_n 3, 1) := by decide +kernel
theorem dX5_timeOf_11 : decode cX5_timeOf 11 = .ok (.iload_n 3, 1) := by decide +kernel
theorem dX5_timeOf_12 : decode cX5_timeOf 12 = .ok (.ifCond .le 27, 3) := by decide +kernel
theorem dX5_timeOf_15 : decode cX5_timeOf 15 = .ok (.iload_n 2, 1) := by decide +kernel
theorem dX5_timeOf_16 : decode cX5_timeOf 16 = .ok (.iload_n 3, 1) := by decide +kernel
theorem dX5_timeOf_17 : decode cX5_timeOf 17 = .ok (.iadd, 1) := by decide +kernel
theorem dX5_timeOf_18 : decode cX5_timeOf 18 = .ok (.istore 4, 2) := by decide +kernel
theorem dX5_timeOf_20 : decode cX5_timeOf 20 = .ok (.iload 4, 2) := by decide +kernel
theorem dX5_timeOf_22 : decode cX5_timeOf 22 = .ok (.iload 4, 2) := by decide +kernel
theorem dX5_timeOf_24 : decode cX5_timeOf 24 = .ok (.imul, 1) := by decide +kernel
theorem dX5_timeOf_25 : decode cX5_timeOf 25 = .ok (.iload_n 1, 1) := by decide +kernel
theorem dX5_timeOf_26 : decode cX5_timeOf 26 = .ok (.if_icmp .gt 6, 3) := by decide +kernel
theorem dX5_timeOf_29 : decode cX5_timeOf 29 = .ok (.iload 4, 2) := by decide +kernel
theorem dX5_timeOf_31 : decode cX5_timeOf 31 = .ok (.istore_n 2, 1) := by decide +kernel
theorem dX5_timeOf_32 : decode cX5_timeOf 32 = .ok (.iload_n 3, 1) := by decide +kernel
theorem dX5_timeOf_33 : decode cX5_timeOf 33 = .ok (.iconst 2, 1) := by decide +kernel
theorem dX5_timeOf_34 : decode cX5_timeOf 34 = .ok (.idiv, 1) := by decide +kernel
theorem dX5_timeOf_35 : decode cX5_timeOf 35 = .ok (.istore_n 3, 1) := by decide +kernel
theorem dX5_timeOf_36 : decode cX5_timeOf 36 = .ok (.goto (-25), 3) := by decide +kernel
theorem dX5_timeOf_39 : decode cX5_timeOf 39 = .ok (.iload_n 2, 1) := by decide +kernel
theorem dX5_timeOf_40 : decode cX5_timeOf 40 = .ok (.ireturn, 1) := by decide +kernel
set_option maxRecDepth 20000 in
theorem ggX5_strengthOf_X5_passes : GoodIn wsX5_strengthOf wsX5_passes := goodIn_r _ [9, 10, 11, 8, 12] (by decide +kernel) (by decide +kernel)
set_option maxRecDepth 20000 in
theorem gX5_strengthOf_X5_passes : GoodIn wsX5_strengthOf (va_wsS RX5 241 yX5_passes wsX5_passes) := goodIn_app (goodIn_of _ (by decide +kernel)) ggX5_strengthOf_X5_passes
theorem dX5_strengthOf_0 : decode cX5_strengthOf 0 = .ok (.ldc 240, 2) := by decide +kernel
theorem dX5_strengthOf_2 : decode cX5_strengthOf 2 = .ok (.istore 4, 2) := by decide +kernel
theorem dX5_strengthOf_4 : decode cX5_strengthOf 4 = .ok (.iconst 0, 1) := by decide +kernel
theorem dX5_strengthOf_5 : decode cX5_strengthOf 5 = .ok (.istore 5, 2) := by decide +kernel
theorem dX5_strengthOf_7 : decode cX5_strengthOf 7 = .ok (.iload 5, 2) := by decide +kernel
theorem dX5_strengthOf_9 : decode cX5_strengthOf 9 = .ok (.iconst 3, 1) := by decide +kernel
theorem dX5_strengthOf_10 : decode cX5_strengthOf 10 = .ok (.if_icmp .gt 49, 3) := by decide +kernel
theorem dX5_strengthOf_13 : decode cX5_strengthOf 13 = .ok (.iload 5, 2) := by decide +kernel
theorem dX5_strengthOf_15 : decode cX5_strengthOf 15 = .ok (.iload_n 1, 1) := by decide +kernel
theorem dX5_strengthOf_16 : decode cX5_strengthOf 16 = .ok (.iload_n 2, 1) := by decide +kernel
theorem dX5_strengthOf_17 : decode cX5_strengthOf 17 = .ok (.invokestatic 241, 3) := by decide +kernel
theorem dX5_strengthOf_20 : decode cX5_strengthOf 20 = .ok (.istore 6, 2) := by decide +kernel
theorem dX5_strengthOf_22 : decode cX5_strengthOf 22 = .ok (.iconst 0, 1) := by decide +kernel
theorem dX5_strengthOf_23 : decode cX5_strengthOf 23 = .ok (.istore 7, 2) := by decide +kernel
theorem dX5_strengthOf_25 : decode cX5_strengthOf 25 = .ok (.iload 7, 2) := by decide +kernel
theorem dX5_strengthOf_27 : decode cX5_strengthOf 27 = .ok (.iload 6, 2) := by decide +kernel
theorem dX5_strengthOf_29 : decode cX5_strengthOf 29 = .ok (.if_icmp .ge 24, 3) := by decide +kernel
theorem dX5_strengthOf_32 : decode cX5_strengthOf 32 = .ok (.iload 4, 2) := by decide +kernel
theorem dX5_strengthOf_34 : decode cX5_strengthOf 34 = .ok (.bipush 10, 2) := by decide +kernel
theorem dX5_strengthOf_36 : decode cX5_strengthOf 36 = .ok (.aload_n 0, 1) := by decide +kernel
theorem dX5_strengthOf_37 : decode cX5_strengthOf 37 = .ok (.iload 5, 2) := by decide +kernel
theorem dX5_strengthOf_39 : decode cX5_strengthOf 39 = .ok (.iaload, 1) := by decide +kernel
theorem dX5_strengthOf_40 : decode cX5_strengthOf 40 = .ok (.isub, 1) := by decide +kernel
theorem dX5_strengthOf_41 : decode cX5_strengthOf 41 = .ok (.imul, 1) := by decide +kernel
theorem dX5_strengthOf_42 : decode cX5_strengthOf 42 = .ok (.bipush 10, 2) := by decide +kernel
theorem dX5_strengthOf_44 : decode cX5_strengthOf 44 = .ok (.idiv, 1) := by decide +kernel
theorem dX5_strengthOf_45 : decode cX5_strengthOf 45 = .ok (.istore 4, 2) := by decide +kernel
theorem dX5_strengthOf_47 : decode cX5_strengthOf 47 = .ok (.iinc 7 1, 3) := by decide +kernel
theorem dX5_strengthOf_50 : decode cX5_strengthOf 50 = .ok (.goto (-25), 3) := by decide +kernel
theorem dX5_strengthOf_53 : decode cX5_strengthOf 53 = .ok (.iinc 5 1, 3) := by decide +kernel
theorem dX5_strengthOf_56 : decode cX5_strengthOf 56 = .ok (.goto (-49), 3) := by decide +kernel
theorem dX5_strengthOf_59 : decode cX5_strengthOf 59 = .ok (.iload 4, 2) := by decide +kernel
theorem dX5_strengthOf_61 : decode cX5_strengthOf 61 = .ok (.iconst 1, 1) := by decide +kernel
theorem dX5_strengthOf_62 : decode cX5_strengthOf 62 = .ok (.iload_n 3, 1) := by decide +kernel
theorem dX5_strengthOf_63 : decode cX5_strengthOf 63 = .ok (.iconst 1, 1) := by decide +kernel
theorem dX5_strengthOf_64 : decode cX5_strengthOf 64 = .ok (.iadd, 1) := by decide +kernel
theorem dX5_strengthOf_65 : decode cX5_strengthOf 65 = .ok (.invokestatic 205, 3) := by decide +kernel
theorem dX5_strengthOf_68 : decode cX5_strengthOf 68 = .ok (.idiv, 1) := by decide +kernel
theorem dX5_strengthOf_69 : decode cX5_strengthOf 69 = .ok (.ireturn, 1) := by decide +kernel
theorem dX5_chanceOf_0 : decode cX5_chanceOf 0 = .ok (.iconst 1, 1) := by decide +kernel
theorem dX5_chanceOf_1 : decode cX5_chanceOf 1 = .ok (.istore_n 2, 1) := by decide +kernel
theorem dX5_chanceOf_2 : decode cX5_chanceOf 2 = .ok (.iconst 0, 1) := by decide +kernel
theorem dX5_chanceOf_3 : decode cX5_chanceOf 3 = .ok (.istore_n 3, 1) := by decide +kernel
theorem dX5_chanceOf_4 : decode cX5_chanceOf 4 = .ok (.iload_n 3, 1) := by decide +kernel
theorem dX5_chanceOf_5 : decode cX5_chanceOf 5 = .ok (.iconst 3, 1) := by decide +kernel
theorem dX5_chanceOf_6 : decode cX5_chanceOf 6 = .ok (.if_icmp .gt 29, 3) := by decide +kernel
theorem dX5_chanceOf_9 : decode cX5_chanceOf 9 = .ok (.iload_n 2, 1) := by decide +kernel
theorem dX5_chanceOf_10 : decode cX5_chanceOf 10 = .ok (.iload_n 0, 1) := by decide +kernel
theorem dX5_chanceOf_11 : decode cX5_chanceOf 11 = .ok (.iload_n 3, 1) := by decide +kernel
theorem dX5_chanceOf_12 : decode cX5_chanceOf 12 = .ok (.ishr, 1) := by decide +kernel
theorem dX5_chanceOf_13 : decode cX5_chanceOf 13 = .ok (.iconst 1, 1) := by decide +kernel
theorem dX5_chanceOf_14 : decode cX5_chanceOf 14 = .ok (.iand, 1) := by decide +kernel
theorem dX5_chanceOf_15 : decode cX5_chanceOf 15 = .ok (.iconst 1, 1) := by decide +kernel
theorem dX5_chanceOf_16 : decode cX5_chanceOf 16 = .ok (.if_icmp .ne 7, 3) := by decide +kernel
theorem dX5_chanceOf_19 : decode cX5_chanceOf 19 = .ok (.iload_n 1, 1) := by decide +kernel
theorem dX5_chanceOf_20 : decode cX5_chanceOf 20 = .ok (.goto 7, 3) := by decide +kernel
theorem dX5_chanceOf_23 : decode cX5_chanceOf 23 = .ok (.bipush 10, 2) := by decide +kernel
theorem dX5_chanceOf_25 : decode cX5_chanceOf 25 = .ok (.iload_n 1, 1) := by decide +kernel
theorem dX5_chanceOf_26 : decode cX5_chanceOf 26 = .ok (.isub, 1) := by decide +kernel
theorem dX5_chanceOf_27 : decode cX5_chanceOf 27 = .ok (.imul, 1) := by decide +kernel
theorem dX5_chanceOf_28 : decode cX5_chanceOf 28 = .ok (.istore_n 2, 1) := by decide +kernel
theorem dX5_chanceOf_29 : decode cX5_chanceOf 29 = .ok (.iinc 3 1, 3) := by decide +kernel
theorem dX5_chanceOf_32 : decode cX5_chanceOf 32 = .ok (.goto (-28), 3) := by decide +kernel
theorem dX5_chanceOf_35 : decode cX5_chanceOf 35 = .ok (.iload_n 2, 1) := by decide +kernel
theorem dX5_chanceOf_36 : decode cX5_chanceOf 36 = .ok (.ireturn, 1) := by decide +kernel
set_option maxRecDepth 20000 in
theorem ggX5_leastTerm_X5_commonDivisor : GoodIn wsX5_leastTerm wsX5_commonDivisor := goodIn_r _ [8] (by decide +kernel) (by decide +kernel)
set_option maxRecDepth 20000 in
theorem gX5_leastTerm_X5_commonDivisor : GoodIn wsX5_leastTerm (va_wsS RX5 244 yX5_commonDivisor wsX5_commonDivisor) := goodIn_app (goodIn_of _ (by decide +kernel)) ggX5_leastTerm_X5_commonDivisor
theorem dX5_leastTerm_0 : decode cX5_leastTerm 0 = .ok (.iload_n 0, 1) := by decide +kernel
theorem dX5_leastTerm_1 : decode cX5_leastTerm 1 = .ok (.ifCond .le 7, 3) := by decide +kernel
theorem dX5_leastTerm_4 : decode cX5_leastTerm 4 = .ok (.iload_n 1, 1) := by decide +kernel
theorem dX5_leastTerm_5 : decode cX5_leastTerm 5 = .ok (.ifCond .gt 5, 3) := by decide +kernel
theorem dX5_leastTerm_8 : decode cX5_leastTerm 8 = .ok (.iload_n 2, 1) := by decide +kernel
theorem dX5_leastTerm_9 : decode cX5_leastTerm 9 = .ok (.ireturn, 1) := by decide +kernel
theorem dX5_leastTerm_10 : decode cX5_leastTerm 10 = .ok (.iload_n 0, 1) := by decide +kernel
theorem dX5_leastTerm_11 : decode cX5_leastTerm 11 = .ok (.iload_n 1, 1) := by decide +kernel
theorem dX5_leastTerm_12 : decode cX5_leastTerm 12 = .ok (.invokestatic 244, 3) := by decide +kernel
theorem dX5_leastTerm_15 : decode cX5_leastTerm 15 = .ok (.istore_n 3, 1) := by decide +kernel
theorem dX5_leastTerm_16 : decode cX5_leastTerm 16 = .ok (.iload_n 2, 1) := by decide +kernel
theorem dX5_leastTerm_17 : decode cX5_leastTerm 17 = .ok (.ifCond .ne 7, 3) := by decide +kernel
theorem dX5_leastTerm_20 : decode cX5_leastTerm 20 = .ok (.iload_n 0, 1) := by decide +kernel
theorem dX5_leastTerm_21 : decode cX5_leastTerm 21 = .ok (.goto 4, 3) := by decide +kernel
theorem dX5_leastTerm_24 : decode cX5_leastTerm 24 = .ok (.iload_n 1, 1) := by decide +kernel
theorem dX5_leastTerm_25 : decode cX5_leastTerm 25 = .ok (.iconst 1, 1) := by decide +kernel
theorem dX5_leastTerm_26 : decode cX5_leastTerm 26 = .ok (.iload_n 3, 1) := by decide +kernel
theorem dX5_leastTerm_27 : decode cX5_leastTerm 27 = .ok (.invokestatic 205, 3) := by decide +kernel
theorem dX5_leastTerm_30 : decode cX5_leastTerm 30 = .ok (.idiv, 1) := by decide +kernel
theorem dX5_leastTerm_31 : decode cX5_leastTerm 31 = .ok (.ireturn, 1) := by decide +kernel
theorem dX5_commonDivisor_0 : decode cX5_commonDivisor 0 = .ok (.iload_n 0, 1) := by decide +kernel
theorem dX5_commonDivisor_1 : decode cX5_commonDivisor 1 = .ok (.istore_n 2, 1) := by decide +kernel
theorem dX5_commonDivisor_2 : decode cX5_commonDivisor 2 = .ok (.iload_n 1, 1) := by decide +kernel
theorem dX5_commonDivisor_3 : decode cX5_commonDivisor 3 = .ok (.istore_n 3, 1) := by decide +kernel
theorem dX5_commonDivisor_4 : decode cX5_commonDivisor 4 = .ok (.iconst 0, 1) := by decide +kernel
theorem dX5_commonDivisor_5 : decode cX5_commonDivisor 5 = .ok (.istore 4, 2) := by decide +kernel
theorem dX5_commonDivisor_7 : decode cX5_commonDivisor 7 = .ok (.iload 4, 2) := by decide +kernel
theorem dX5_commonDivisor_9 : decode cX5_commonDivisor 9 = .ok (.bipush 64, 2) := by decide +kernel
theorem dX5_commonDivisor_11 : decode cX5_commonDivisor 11 = .ok (.if_icmp .ge 23, 3) := by decide +kernel
theorem dX5_commonDivisor_14 : decode cX5_commonDivisor 14 = .ok (.iload_n 3, 1) := by decide +kernel
theorem dX5_commonDivisor_15 : decode cX5_commonDivisor 15 = .ok (.ifCond .eq 19, 3) := by decide +kernel
theorem dX5_commonDivisor_18 : decode cX5_commonDivisor 18 = .ok (.iload_n 2, 1) := by decide +kernel
theorem dX5_commonDivisor_19 : decode cX5_commonDivisor 19 = .ok (.iload_n 3, 1) := by decide +kernel
theorem dX5_commonDivisor_20 : decode cX5_commonDivisor 20 = .ok (.irem, 1) := by decide +kernel
theorem dX5_commonDivisor_21 : decode cX5_commonDivisor 21 = .ok (.istore 5, 2) := by decide +kernel
theorem dX5_commonDivisor_23 : decode cX5_commonDivisor 23 = .ok (.iload_n 3, 1) := by decide +kernel
theorem dX5_commonDivisor_24 : decode cX5_commonDivisor 24 = .ok (.istore_n 2, 1) := by decide +kernel
theorem dX5_commonDivisor_25 : decode cX5_commonDivisor 25 = .ok (.iload 5, 2) := by decide +kernel
theorem dX5_commonDivisor_27 : decode cX5_commonDivisor 27 = .ok (.istore_n 3, 1) := by decide +kernel
theorem dX5_commonDivisor_28 : decode cX5_commonDivisor 28 = .ok (.iinc 4 1, 3) := by decide +kernel
theorem dX5_commonDivisor_31 : decode cX5_commonDivisor 31 = .ok (.goto (-24), 3) := by decide +kernel
theorem dX5_commonDivisor_34 : decode cX5_commonDivisor 34 = .ok (.iload_n 2, 1) := by decide +kernel
theorem dX5_commonDivisor_35 : decode cX5_commonDivisor 35 = .ok (.ireturn, 1) := by decide +kernel
