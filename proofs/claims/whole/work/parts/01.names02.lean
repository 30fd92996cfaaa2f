set_option maxRecDepth 20000 in
theorem gX3_curtainMeets_J9_floorDiv_7cf53 : GoodIn wsX3_curtainMeets (va_wsS RX3 97 yJ9_floorDiv_7cf53 wsJ9_floorDiv_7cf53) := goodIn_app (goodIn_of _ (by decide +kernel)) ggX3_curtainMeets_J9_floorDiv_7cf53
theorem dX3_curtainMeets_0 : decode cX3_curtainMeets 0 = .ok (.aload_n 0, 1) := by decide +kernel
theorem dX3_curtainMeets_1 : decode cX3_curtainMeets 1 = .ok (.getfield 37, 3) := by decide +kernel
theorem dX3_curtainMeets_4 : decode cX3_curtainMeets 4 = .ok (.iload_n 3, 1) := by decide +kernel
theorem dX3_curtainMeets_5 : decode cX3_curtainMeets 5 = .ok (.imul, 1) := by decide +kernel
theorem dX3_curtainMeets_6 : decode cX3_curtainMeets 6 = .ok (.istore 4, 2) := by decide +kernel
theorem dX3_curtainMeets_8 : decode cX3_curtainMeets 8 = .ok (.iload 4, 2) := by decide +kernel
theorem dX3_curtainMeets_10 : decode cX3_curtainMeets 10 = .ok (.ifCond .gt 5, 3) := by decide +kernel
theorem dX3_curtainMeets_13 : decode cX3_curtainMeets 13 = .ok (.iconst 0, 1) := by decide +kernel
theorem dX3_curtainMeets_14 : decode cX3_curtainMeets 14 = .ok (.ireturn, 1) := by decide +kernel
theorem dX3_curtainMeets_15 : decode cX3_curtainMeets 15 = .ok (.iload_n 2, 1) := by decide +kernel
theorem dX3_curtainMeets_16 : decode cX3_curtainMeets 16 = .ok (.iload 4, 2) := by decide +kernel
theorem dX3_curtainMeets_18 : decode cX3_curtainMeets 18 = .ok (.invokestatic 97, 3) := by decide +kernel
theorem dX3_curtainMeets_21 : decode cX3_curtainMeets 21 = .ok (.istore 5, 2) := by decide +kernel
theorem dX3_curtainMeets_23 : decode cX3_curtainMeets 23 = .ok (.iload_n 2, 1) := by decide +kernel
theorem dX3_curtainMeets_24 : decode cX3_curtainMeets 24 = .ok (.iload 5, 2) := by decide +kernel
theorem dX3_curtainMeets_26 : decode cX3_curtainMeets 26 = .ok (.iload 4, 2) := by decide +kernel
theorem dX3_curtainMeets_28 : decode cX3_curtainMeets 28 = .ok (.imul, 1) := by decide +kernel
theorem dX3_curtainMeets_29 : decode cX3_curtainMeets 29 = .ok (.isub, 1) := by decide +kernel
theorem dX3_curtainMeets_30 : decode cX3_curtainMeets 30 = .ok (.istore 6, 2) := by decide +kernel
theorem dX3_curtainMeets_32 : decode cX3_curtainMeets 32 = .ok (.iload 5, 2) := by decide +kernel
theorem dX3_curtainMeets_34 : decode cX3_curtainMeets 34 = .ok (.iconst 1, 1) := by decide +kernel
theorem dX3_curtainMeets_35 : decode cX3_curtainMeets 35 = .ok (.iand, 1) := by decide +kernel
theorem dX3_curtainMeets_36 : decode cX3_curtainMeets 36 = .ok (.ifCond .ne 8, 3) := by decide +kernel
theorem dX3_curtainMeets_39 : decode cX3_curtainMeets 39 = .ok (.iload 6, 2) := by decide +kernel
theorem dX3_curtainMeets_41 : decode cX3_curtainMeets 41 = .ok (.goto 8, 3) := by decide +kernel
theorem dX3_curtainMeets_44 : decode cX3_curtainMeets 44 = .ok (.iload 4, 2) := by decide +kernel
theorem dX3_curtainMeets_46 : decode cX3_curtainMeets 46 = .ok (.iload 6, 2) := by decide +kernel
theorem dX3_curtainMeets_48 : decode cX3_curtainMeets 48 = .ok (.isub, 1) := by decide +kernel
theorem dX3_curtainMeets_49 : decode cX3_curtainMeets 49 = .ok (.istore 7, 2) := by decide +kernel
theorem dX3_curtainMeets_51 : decode cX3_curtainMeets 51 = .ok (.iload 7, 2) := by decide +kernel
theorem dX3_curtainMeets_53 : decode cX3_curtainMeets 53 = .ok (.aload_n 0, 1) := by decide +kernel
theorem dX3_curtainMeets_54 : decode cX3_curtainMeets 54 = .ok (.getfield 24, 3) := by decide +kernel
theorem dX3_curtainMeets_57 : decode cX3_curtainMeets 57 = .ok (.iload_n 1, 1) := by decide +kernel
theorem dX3_curtainMeets_58 : decode cX3_curtainMeets 58 = .ok (.iaload, 1) := by decide +kernel
theorem dX3_curtainMeets_59 : decode cX3_curtainMeets 59 = .ok (.iload_n 3, 1) := by decide +kernel
theorem dX3_curtainMeets_60 : decode cX3_curtainMeets 60 = .ok (.imul, 1) := by decide +kernel
theorem dX3_curtainMeets_61 : decode cX3_curtainMeets 61 = .ok (.if_icmp .lt 20, 3) := by decide +kernel
theorem dX3_curtainMeets_64 : decode cX3_curtainMeets 64 = .ok (.iload 7, 2) := by decide +kernel
theorem dX3_curtainMeets_66 : decode cX3_curtainMeets 66 = .ok (.aload_n 0, 1) := by decide +kernel
theorem dX3_curtainMeets_67 : decode cX3_curtainMeets 67 = .ok (.getfield 27, 3) := by decide +kernel
theorem dX3_curtainMeets_70 : decode cX3_curtainMeets 70 = .ok (.iload_n 1, 1) := by decide +kernel
theorem dX3_curtainMeets_71 : decode cX3_curtainMeets 71 = .ok (.iaload, 1) := by decide +kernel
theorem dX3_curtainMeets_72 : decode cX3_curtainMeets 72 = .ok (.iload_n 3, 1) := by decide +kernel
theorem dX3_curtainMeets_73 : decode cX3_curtainMeets 73 = .ok (.imul, 1) := by decide +kernel
theorem dX3_curtainMeets_74 : decode cX3_curtainMeets 74 = .ok (.if_icmp .gt 7, 3) := by decide +kernel
theorem dX3_curtainMeets_77 : decode cX3_curtainMeets 77 = .ok (.iconst 1, 1) := by decide +kernel
theorem dX3_curtainMeets_78 : decode cX3_curtainMeets 78 = .ok (.goto 4, 3) := by decide +kernel
theorem dX3_curtainMeets_81 : decode cX3_curtainMeets 81 = .ok (.iconst 0, 1) := by decide +kernel
theorem dX3_curtainMeets_82 : decode cX3_curtainMeets 82 = .ok (.ireturn, 1) := by decide +kernel
theorem dX4_init_0 : decode cX4_init 0 = .ok (.aload_n 0, 1) := by decide +kernel
theorem dX4_init_1 : decode cX4_init 1 = .ok (.invokespecial 3, 3) := by decide +kernel
theorem dX4_init_4 : decode cX4_init 4 = .ok (.aload_n 0, 1) := by decide +kernel
theorem dX4_init_5 : decode cX4_init 5 = .ok (.bipush 100, 2) := by decide +kernel
theorem dX4_init_7 : decode cX4_init 7 = .ok (.newarray .int, 2) := by decide +kernel
theorem dX4_init_9 : decode cX4_init 9 = .ok (.putfield 9, 3) := by decide +kernel
theorem dX4_init_12 : decode cX4_init 12 = .ok (.return_, 1) := by decide +kernel
theorem dX4_append_0 : decode cX4_append 0 = .ok (.aload_n 0, 1) := by decide +kernel
theorem dX4_append_1 : decode cX4_append 1 = .ok (.getfield 15, 3) := by decide +kernel
theorem dX4_append_4 : decode cX4_append 4 = .ok (.bipush 100, 2) := by decide +kernel
theorem dX4_append_6 : decode cX4_append 6 = .ok (.if_icmp .lt 5, 3) := by decide +kernel
theorem dX4_append_9 : decode cX4_append 9 = .ok (.iconst 0, 1) := by decide +kernel
theorem dX4_append_10 : decode cX4_append 10 = .ok (.ireturn, 1) := by decide +kernel
theorem dX4_append_11 : decode cX4_append 11 = .ok (.aload_n 0, 1) := by decide +kernel
theorem dX4_append_12 : decode cX4_append 12 = .ok (.getfield 9, 3) := by decide +kernel
theorem dX4_append_15 : decode cX4_append 15 = .ok (.aload_n 0, 1) := by decide +kernel
theorem dX4_append_16 : decode cX4_append 16 = .ok (.getfield 15, 3) := by decide +kernel
theorem dX4_append_19 : decode cX4_append 19 = .ok (.iload_n 1, 1) := by decide +kernel
theorem dX4_append_20 : decode cX4_append 20 = .ok (.iastore, 1) := by decide +kernel
theorem dX4_append_21 : decode cX4_append 21 = .ok (.aload_n 0, 1) := by decide +kernel
theorem dX4_append_22 : decode cX4_append 22 = .ok (.dup, 1) := by decide +kernel
theorem dX4_append_23 : decode cX4_append 23 = .ok (.getfield 15, 3) := by decide +kernel
theorem dX4_append_26 : decode cX4_append 26 = .ok (.iconst 1, 1) := by decide +kernel
theorem dX4_append_27 : decode cX4_append 27 = .ok (.iadd, 1) := by decide +kernel
theorem dX4_append_28 : decode cX4_append 28 = .ok (.putfield 15, 3) := by decide +kernel
theorem dX4_append_31 : decode cX4_append 31 = .ok (.iconst 1, 1) := by decide +kernel
theorem dX4_append_32 : decode cX4_append 32 = .ok (.ireturn, 1) := by decide +kernel
set_option maxRecDepth 20000 in
theorem ggX4_readInto_X3_beAsAtFirst : GoodIn wsX4_readInto wsX3_beAsAtFirst := goodIn_r _ [8, 9, 10, 11, 12, 13, 14, 15, 16, 17, 18, 19, 92, 93, 94, 95, 96, 97, 98, 99, 100, 101, 102, 103] (by decide +kernel) (by decide +kernel)
set_option maxRecDepth 20000 in
theorem gX4_readInto_X3_beAsAtFirst : GoodIn wsX4_readInto (wsV RX4 19 RX3 yX3_beAsAtFirst wsX3_beAsAtFirst) := goodIn_app (goodIn_of _ (by decide +kernel)) ggX4_readInto_X3_beAsAtFirst
set_option maxRecDepth 20000 in
theorem ggX4_readInto_X4_nextToken : GoodIn wsX4_readInto wsX4_nextToken := goodIn_r _ [24, 1, 25, 26, 3, 2, 27, 28, 23, 29, 30, 31, 32, 33, 34, 35, 36, 37, 38, 86, 87, 88, 89, 90, 91] (by decide +kernel) (by decide +kernel)
set_option maxRecDepth 20000 in
theorem gX4_readInto_X4_nextToken : GoodIn wsX4_readInto (wsV RX4 27 RX4 yX4_nextToken wsX4_nextToken) := goodIn_app (goodIn_of _ (by decide +kernel)) ggX4_readInto_X4_nextToken
set_option maxRecDepth 20000 in
theorem ggX4_readInto_X4_readItem : GoodIn wsX4_readInto wsX4_readItem := goodIn_r _ [42, 2, 43, 44, 45, 46, 47, 23, 48, 34, 49, 50, 51, 52, 53, 54, 20, 21, 22, 24, 1, 25, 26, 3, 27, 28, 29, 30, 31, 32, 33, 35, 36, 37, 38, 55, 56, 57, 58, 59, 60, 61, 62, 63, 64, 65, 66, 67, 68, 69, 70, 71, 72, 73, 74, 75, 76, 77, 78, 79, 80, 81, 86, 87, 88, 89, 90, 91, 92, 93, 94, 95, 96, 97, 98, 99, 100, 101, 102, 103] (by decide +kernel) (by decide +kernel)
set_option maxRecDepth 20000 in
theorem gX4_readInto_X4_readItem : GoodIn wsX4_readInto (wsV RX4 33 RX4 yX4_readItem wsX4_readItem) := goodIn_app (goodIn_of _ (by decide +kernel)) ggX4_readInto_X4_readItem
set_option maxRecDepth 20000 in
theorem ggX4_readInto_X4_readEnd : GoodIn wsX4_readInto wsX4_readEnd := goodIn_r _ [85, 2, 20, 21, 22, 23, 24, 1, 25, 26, 3, 27, 28, 29, 30, 31, 32, 33, 34, 35, 36, 37, 38, 86, 87, 88, 89, 90, 91] (by decide +kernel) (by decide +kernel)
set_option maxRecDepth 20000 in
theorem gX4_readInto_X4_readEnd : GoodIn wsX4_readInto (wsV RX4 37 RX4 yX4_readEnd wsX4_readEnd) := goodIn_app (goodIn_of _ (by decide +kernel)) ggX4_readInto_X4_readEnd
theorem dX4_readInto_0 : decode cX4_readInto 0 = .ok (.aload_n 1, 1) := by decide +kernel
theorem dX4_readInto_1 : decode cX4_readInto 1 = .ok (.invokevirtual 19, 3) := by decide +kernel
theorem dX4_readInto_4 : decode cX4_readInto 4 = .ok (.aload_n 0, 1) := by decide +kernel
theorem dX4_readInto_5 : decode cX4_readInto 5 = .ok (.iconst 0, 1) := by decide +kernel
theorem dX4_readInto_6 : decode cX4_readInto 6 = .ok (.putfield 24, 3) := by decide +kernel
theorem dX4_readInto_9 : decode cX4_readInto 9 = .ok (.iconst 0, 1) := by decide +kernel
theorem dX4_readInto_10 : decode cX4_readInto 10 = .ok (.istore_n 2, 1) := by decide +kernel
theorem dX4_readInto_11 : decode cX4_readInto 11 = .ok (.iload_n 2, 1) := by decide +kernel
theorem dX4_readInto_12 : decode cX4_readInto 12 = .ok (.bipush 100, 2) := by decide +kernel
theorem dX4_readInto_14 : decode cX4_readInto 14 = .ok (.if_icmp .gt 47, 3) := by decide +kernel
theorem dX4_readInto_17 : decode cX4_readInto 17 = .ok (.aload_n 0, 1) := by decide +kernel
theorem dX4_readInto_18 : decode cX4_readInto 18 = .ok (.invokevirtual 27, 3) := by decide +kernel
theorem dX4_readInto_21 : decode cX4_readInto 21 = .ok (.aload_n 0, 1) := by decide +kernel
theorem dX4_readInto_22 : decode cX4_readInto 22 = .ok (.getfield 30, 3) := by decide +kernel
theorem dX4_readInto_25 : decode cX4_readInto 25 = .ok (.iconst (-1), 1) := by decide +kernel
theorem dX4_readInto_26 : decode cX4_readInto 26 = .ok (.if_icmp .ne 5, 3) := by decide +kernel
theorem dX4_readInto_29 : decode cX4_readInto 29 = .ok (.iload_n 2, 1) := by decide +kernel
theorem dX4_readInto_30 : decode cX4_readInto 30 = .ok (.ireturn, 1) := by decide +kernel
theorem dX4_readInto_31 : decode cX4_readInto 31 = .ok (.aload_n 0, 1) := by decide +kernel
theorem dX4_readInto_32 : decode cX4_readInto 32 = .ok (.aload_n 1, 1) := by decide +kernel
theorem dX4_readInto_33 : decode cX4_readInto 33 = .ok (.iload_n 2, 1) := by decide +kernel
theorem dX4_readInto_34 : decode cX4_readInto 34 = .ok (.invokevirtual 33, 3) := by decide +kernel
theorem dX4_readInto_37 : decode cX4_readInto 37 = .ok (.ifCond .eq 10, 3) := by decide +kernel
theorem dX4_readInto_40 : decode cX4_readInto 40 = .ok (.aload_n 0, 1) := by decide +kernel
theorem dX4_readInto_41 : decode cX4_readInto 41 = .ok (.invokevirtual 37, 3) := by decide +kernel
theorem dX4_readInto_44 : decode cX4_readInto 44 = .ok (.ifCond .ne 11, 3) := by decide +kernel
theorem dX4_readInto_47 : decode cX4_readInto 47 = .ok (.bipush (-10), 2) := by decide +kernel
theorem dX4_readInto_49 : decode cX4_readInto 49 = .ok (.aload_n 0, 1) := by decide +kernel
theorem dX4_readInto_50 : decode cX4_readInto 50 = .ok (.getfield 41, 3) := by decide +kernel
theorem dX4_readInto_53 : decode cX4_readInto 53 = .ok (.isub, 1) := by decide +kernel
theorem dX4_readInto_54 : decode cX4_readInto 54 = .ok (.ireturn, 1) := by decide +kernel
theorem dX4_readInto_55 : decode cX4_readInto 55 = .ok (.iinc 2 1, 3) := by decide +kernel
theorem dX4_readInto_58 : decode cX4_readInto 58 = .ok (.goto (-47), 3) := by decide +kernel
theorem dX4_readInto_61 : decode cX4_readInto 61 = .ok (.iload_n 2, 1) := by decide +kernel
theorem dX4_readInto_62 : decode cX4_readInto 62 = .ok (.ireturn, 1) := by decide +kernel
set_option maxRecDepth 20000 in
theorem ggX4_readItem_X4_readSides : GoodIn wsX4_readItem wsX4_readSides := goodIn_r _ [8, 9, 10, 11, 12, 13, 14, 7, 15, 1, 16, 17, 18, 19, 20, 21, 22, 23, 24, 25, 26, 27, 28, 29, 30, 31, 32, 33, 34, 35, 36, 37, 62, 63, 64, 65, 66, 67, 68, 69, 70, 71, 72, 73, 74, 75, 76, 77, 78, 79] (by decide +kernel) (by decide +kernel)
set_option maxRecDepth 20000 in
theorem gX4_readItem_X4_readSides : GoodIn wsX4_readItem (wsV RX4 44 RX4 yX4_readSides wsX4_readSides) := goodIn_app (goodIn_of _ (by decide +kernel)) ggX4_readItem_X4_readSides
set_option maxRecDepth 20000 in
theorem ggX4_readItem_X4_readSwallows : GoodIn wsX4_readItem wsX4_readSwallows := goodIn_r _ [41, 9, 42, 12, 13, 14, 7, 15, 1, 16, 17, 18, 19, 20, 21, 22, 23, 24, 25, 26, 27, 28, 29, 30, 31, 32, 33, 34, 35, 36, 37, 62, 63, 64, 65, 66, 67, 68, 69, 70, 71, 72, 73, 74, 75, 76, 77, 78, 79] (by decide +kernel) (by decide +kernel)
set_option maxRecDepth 20000 in
theorem gX4_readItem_X4_readSwallows : GoodIn wsX4_readItem (wsV RX4 48 RX4 yX4_readSwallows wsX4_readSwallows) := goodIn_app (goodIn_of _ (by decide +kernel)) ggX4_readItem_X4_readSwallows
set_option maxRecDepth 20000 in
theorem ggX4_readItem_X4_readSource : GoodIn wsX4_readItem wsX4_readSource := goodIn_r _ [46, 10, 9, 47, 11, 48, 12, 13, 14, 7, 15, 1, 16, 17, 18, 19, 20, 21, 22, 23, 24, 25, 26, 27, 28, 29, 30, 31, 32, 33, 34, 35, 36, 37, 68, 69, 70, 71, 72, 73, 74, 75, 76, 77, 78, 79, 62, 63, 64, 65, 66, 67] (by decide +kernel) (by decide +kernel)
set_option maxRecDepth 20000 in
theorem gX4_readItem_X4_readSource : GoodIn wsX4_readItem (wsV RX4 51 RX4 yX4_readSource wsX4_readSource) := goodIn_app (goodIn_of _ (by decide +kernel)) ggX4_readItem_X4_readSource
set_option maxRecDepth 20000 in
theorem ggX4_readItem_X4_readSeat : GoodIn wsX4_readItem wsX4_readSeat := goodIn_r _ [52, 10, 53, 2, 9, 11, 54, 12, 13, 14, 7, 15, 1, 16, 17, 18, 19, 20, 21, 22, 23, 24, 25, 26, 27, 28, 29, 30, 31, 32, 33, 34, 35, 36, 37, 68, 69, 70, 71, 72, 73, 74, 75, 76, 77, 78, 79, 62, 63, 64, 65, 66, 67] (by decide +kernel) (by decide +kernel)
set_option maxRecDepth 20000 in
theorem gX4_readItem_X4_readSeat : GoodIn wsX4_readItem (wsV RX4 57 RX4 yX4_readSeat wsX4_readSeat) := goodIn_app (goodIn_of _ (by decide +kernel)) ggX4_readItem_X4_readSeat
set_option maxRecDepth 20000 in
theorem ggX4_readItem_X4_readCurtain : GoodIn wsX4_readItem wsX4_readCurtain := goodIn_r _ [58, 3, 10, 59, 9, 11, 60, 61, 12, 13, 14, 7, 15, 1, 16, 17, 18, 19, 20, 21, 22, 23, 24, 25, 26, 27, 28, 29, 30, 31, 32, 33, 34, 35, 36, 37, 68, 69, 70, 71, 72, 73, 74, 75, 76, 77, 78, 79, 62, 63, 64, 65, 66, 67] (by decide +kernel) (by decide +kernel)
set_option maxRecDepth 20000 in
theorem gX4_readItem_X4_readCurtain : GoodIn wsX4_readItem (wsV RX4 63 RX4 yX4_readCurtain wsX4_readCurtain) := goodIn_app (goodIn_of _ (by decide +kernel)) ggX4_readItem_X4_readCurtain
theorem dX4_readItem_0 : decode cX4_readItem 0 = .ok (.aload_n 0, 1) := by decide +kernel
theorem dX4_readItem_1 : decode cX4_readItem 1 = .ok (.getfield 30, 3) := by decide +kernel
theorem dX4_readItem_4 : decode cX4_readItem 4 = .ok (.lookupswitch 126 #[(99, 104), (113, 76), (114, 52), (115, 82), (119, 70)], 52) := by decide +kernel
theorem dX4_readItem_56 : decode cX4_readItem 56 = .ok (.iload_n 2, 1) := by decide +kernel
theorem dX4_readItem_57 : decode cX4_readItem 57 = .ok (.ifCond .ne 15, 3) := by decide +kernel
theorem dX4_readItem_60 : decode cX4_readItem 60 = .ok (.aload_n 0, 1) := by decide +kernel
theorem dX4_readItem_61 : decode cX4_readItem 61 = .ok (.aload_n 1, 1) := by decide +kernel
theorem dX4_readItem_62 : decode cX4_readItem 62 = .ok (.invokevirtual 44, 3) := by decide +kernel
theorem dX4_readItem_65 : decode cX4_readItem 65 = .ok (.ifCond .eq 7, 3) := by decide +kernel
theorem dX4_readItem_68 : decode cX4_readItem 68 = .ok (.iconst 1, 1) := by decide +kernel
theorem dX4_readItem_69 : decode cX4_readItem 69 = .ok (.goto 4, 3) := by decide +kernel
theorem dX4_readItem_72 : decode cX4_readItem 72 = .ok (.iconst 0, 1) := by decide +kernel
theorem dX4_readItem_73 : decode cX4_readItem 73 = .ok (.ireturn, 1) := by decide +kernel
theorem dX4_readItem_74 : decode cX4_readItem 74 = .ok (.aload_n 0, 1) := by decide +kernel
theorem dX4_readItem_75 : decode cX4_readItem 75 = .ok (.aload_n 1, 1) := by decide +kernel
theorem dX4_readItem_76 : decode cX4_readItem 76 = .ok (.invokevirtual 48, 3) := by decide +kernel
theorem dX4_readItem_79 : decode cX4_readItem 79 = .ok (.ireturn, 1) := by decide +kernel
theorem dX4_readItem_80 : decode cX4_readItem 80 = .ok (.aload_n 0, 1) := by decide +kernel
theorem dX4_readItem_81 : decode cX4_readItem 81 = .ok (.aload_n 1, 1) := by decide +kernel
theorem dX4_readItem_82 : decode cX4_readItem 82 = .ok (.invokevirtual 51, 3) := by decide +kernel
theorem dX4_readItem_85 : decode cX4_readItem 85 = .ok (.ireturn, 1) := by decide +kernel
theorem dX4_readItem_86 : decode cX4_readItem 86 = .ok (.aload_n 1, 1) := by decide +kernel
theorem dX4_readItem_87 : decode cX4_readItem 87 = .ok (.getfield 54, 3) := by decide +kernel
theorem dX4_readItem_90 : decode cX4_readItem 90 = .ok (.iconst 4, 1) := by decide +kernel
theorem dX4_readItem_91 : decode cX4_readItem 91 = .ok (.if_icmp .ge 15, 3) := by decide +kernel
theorem dX4_readItem_94 : decode cX4_readItem 94 = .ok (.aload_n 0, 1) := by decide +kernel
theorem dX4_readItem_95 : decode cX4_readItem 95 = .ok (.aload_n 1, 1) := by decide +kernel
theorem dX4_readItem_96 : decode cX4_readItem 96 = .ok (.invokevirtual 57, 3) := by decide +kernel
theorem dX4_readItem_99 : decode cX4_readItem 99 = .ok (.ifCond .eq 7, 3) := by decide +kernel
theorem dX4_readItem_102 : decode cX4_readItem 102 = .ok (.iconst 1, 1) := by decide +kernel
theorem dX4_readItem_103 : decode cX4_readItem 103 = .ok (.goto 4, 3) := by decide +kernel
theorem dX4_readItem_106 : decode cX4_readItem 106 = .ok (.iconst 0, 1) := by decide +kernel
theorem dX4_readItem_107 : decode cX4_readItem 107 = .ok (.ireturn, 1) := by decide +kernel
theorem dX4_readItem_108 : decode cX4_readItem 108 = .ok (.aload_n 1, 1) := by decide +kernel
theorem dX4_readItem_109 : decode cX4_readItem 109 = .ok (.getfield 60, 3) := by decide +kernel
theorem dX4_readItem_112 : decode cX4_readItem 112 = .ok (.iconst 3, 1) := by decide +kernel
theorem dX4_readItem_113 : decode cX4_readItem 113 = .ok (.if_icmp .ge 15, 3) := by decide +kernel
theorem dX4_readItem_116 : decode cX4_readItem 116 = .ok (.aload_n 0, 1) := by decide +kernel
theorem dX4_readItem_117 : decode cX4_readItem 117 = .ok (.aload_n 1, 1) := by decide +kernel
theorem dX4_readItem_118 : decode cX4_readItem 118 = .ok (.invokevirtual 63, 3) := by decide +kernel
theorem dX4_readItem_121 : decode cX4_readItem 121 = .ok (.ifCond .eq 7, 3) := by decide +kernel
theorem dX4_readItem_124 : decode cX4_readItem 124 = .ok (.iconst 1, 1) := by decide +kernel
theorem dX4_readItem_125 : decode cX4_readItem 125 = .ok (.goto 4, 3) := by decide +kernel
theorem dX4_readItem_128 : decode cX4_readItem 128 = .ok (.iconst 0, 1) := by decide +kernel
theorem dX4_readItem_129 : decode cX4_readItem 129 = .ok (.ireturn, 1) := by decide +kernel
theorem dX4_readItem_130 : decode cX4_readItem 130 = .ok (.iconst 0, 1) := by decide +kernel
theorem dX4_readItem_131 : decode cX4_readItem 131 = .ok (.ireturn, 1) := by decide +kernel
set_option maxRecDepth 20000 in
theorem ggX4_readSides_X4_readNumber : GoodIn wsX4_readSides wsX4_readNumber := goodIn_r _ [8, 9, 1, 10, 11, 12, 7, 13, 14, 15, 16, 17, 18, 19, 20, 21, 22, 23, 24, 25, 26, 27, 28, 29, 30, 31, 32, 33, 34, 35, 36, 37] (by decide +kernel) (by decide +kernel)
set_option maxRecDepth 20000 in
theorem gX4_readSides_X4_readNumber : GoodIn wsX4_readSides (wsV RX4 66 RX4 yX4_readNumber wsX4_readNumber) := goodIn_app (goodIn_of _ (by decide +kernel)) ggX4_readSides_X4_readNumber
theorem dX4_readSides_0 : decode cX4_readSides 0 = .ok (.aload_n 0, 1) := by decide +kernel
theorem dX4_readSides_1 : decode cX4_readSides 1 = .ok (.iconst 2, 1) := by decide +kernel
theorem dX4_readSides_2 : decode cX4_readSides 2 = .ok (.bipush 20, 2) := by decide +kernel
theorem dX4_readSides_4 : decode cX4_readSides 4 = .ok (.invokevirtual 66, 3) := by decide +kernel
theorem dX4_readSides_7 : decode cX4_readSides 7 = .ok (.ifCond .ne 5, 3) := by decide +kernel
theorem dX4_readSides_10 : decode cX4_readSides 10 = .ok (.iconst 0, 1) := by decide +kernel
theorem dX4_readSides_11 : decode cX4_readSides 11 = .ok (.ireturn, 1) := by decide +kernel
theorem dX4_readSides_12 : decode cX4_readSides 12 = .ok (.aload_n 1, 1) := by decide +kernel
theorem dX4_readSides_13 : decode cX4_readSides 13 = .ok (.aload_n 0, 1) := by decide +kernel
theorem dX4_readSides_14 : decode cX4_readSides 14 = .ok (.getfield 70, 3) := by decide +kernel
theorem dX4_readSides_17 : decode cX4_readSides 17 = .ok (.putfield 73, 3) := by decide +kernel
theorem dX4_readSides_20 : decode cX4_readSides 20 = .ok (.aload_n 0, 1) := by decide +kernel
theorem dX4_readSides_21 : decode cX4_readSides 21 = .ok (.iconst 2, 1) := by decide +kernel
theorem dX4_readSides_22 : decode cX4_readSides 22 = .ok (.bipush 20, 2) := by decide +kernel
theorem dX4_readSides_24 : decode cX4_readSides 24 = .ok (.invokevirtual 66, 3) := by decide +kernel
theorem dX4_readSides_27 : decode cX4_readSides 27 = .ok (.ifCond .ne 5, 3) := by decide +kernel
theorem dX4_readSides_30 : decode cX4_readSides 30 = .ok (.iconst 0, 1) := by decide +kernel
theorem dX4_readSides_31 : decode cX4_readSides 31 = .ok (.ireturn, 1) := by decide +kernel
theorem dX4_readSides_32 : decode cX4_readSides 32 = .ok (.aload_n 1, 1) := by decide +kernel
theorem dX4_readSides_33 : decode cX4_readSides 33 = .ok (.aload_n 0, 1) := by decide +kernel
theorem dX4_readSides_34 : decode cX4_readSides 34 = .ok (.getfield 70, 3) := by decide +kernel
theorem dX4_readSides_37 : decode cX4_readSides 37 = .ok (.putfield 76, 3) := by decide +kernel
theorem dX4_readSides_40 : decode cX4_readSides 40 = .ok (.iconst 1, 1) := by decide +kernel
theorem dX4_readSides_41 : decode cX4_readSides 41 = .ok (.ireturn, 1) := by decide +kernel
set_option maxRecDepth 20000 in
theorem ggX4_readSwallows_X4_readNumber : GoodIn wsX4_readSwallows wsX4_readNumber := goodIn_r _ [7, 8, 1, 9, 10, 11, 6, 12, 13, 14, 15, 16, 17, 18, 19, 20, 21, 22, 23, 24, 25, 26, 27, 28, 29, 30, 31, 32, 33, 34, 35, 36] (by decide +kernel) (by decide +kernel)
set_option maxRecDepth 20000 in
theorem gX4_readSwallows_X4_readNumber : GoodIn wsX4_readSwallows (wsV RX4 66 RX4 yX4_readNumber wsX4_readNumber) := goodIn_app (goodIn_of _ (by decide +kernel)) ggX4_readSwallows_X4_readNumber
theorem dX4_readSwallows_0 : decode cX4_readSwallows 0 = .ok (.aload_n 0, 1) := by decide +kernel
theorem dX4_readSwallows_1 : decode cX4_readSwallows 1 = .ok (.iconst 0, 1) := by decide +kernel
theorem dX4_readSwallows_2 : decode cX4_readSwallows 2 = .ok (.iconst 3, 1) := by decide +kernel
theorem dX4_readSwallows_3 : decode cX4_readSwallows 3 = .ok (.invokevirtual 66, 3) := by decide +kernel
theorem dX4_readSwallows_6 : decode cX4_readSwallows 6 = .ok (.ifCond .ne 5, 3) := by decide +kernel
theorem dX4_readSwallows_9 : decode cX4_readSwallows 9 = .ok (.iconst 0, 1) := by decide +kernel
theorem dX4_readSwallows_10 : decode cX4_readSwallows 10 = .ok (.ireturn, 1) := by decide +kernel
theorem dX4_readSwallows_11 : decode cX4_readSwallows 11 = .ok (.aload_n 0, 1) := by decide +kernel
theorem dX4_readSwallows_12 : decode cX4_readSwallows 12 = .ok (.getfield 70, 3) := by decide +kernel
theorem dX4_readSwallows_15 : decode cX4_readSwallows 15 = .ok (.istore_n 2, 1) := by decide +kernel
theorem dX4_readSwallows_16 : decode cX4_readSwallows 16 = .ok (.aload_n 0, 1) := by decide +kernel
theorem dX4_readSwallows_17 : decode cX4_readSwallows 17 = .ok (.iconst 0, 1) := by decide +kernel
theorem dX4_readSwallows_18 : decode cX4_readSwallows 18 = .ok (.bipush 10, 2) := by decide +kernel
theorem dX4_readSwallows_20 : decode cX4_readSwallows 20 = .ok (.invokevirtual 66, 3) := by decide +kernel
theorem dX4_readSwallows_23 : decode cX4_readSwallows 23 = .ok (.ifCond .ne 5, 3) := by decide +kernel
theorem dX4_readSwallows_26 : decode cX4_readSwallows 26 = .ok (.iconst 0, 1) := by decide +kernel
theorem dX4_readSwallows_27 : decode cX4_readSwallows 27 = .ok (.ireturn, 1) := by decide +kernel
theorem dX4_readSwallows_28 : decode cX4_readSwallows 28 = .ok (.aload_n 1, 1) := by decide +kernel
theorem dX4_readSwallows_29 : decode cX4_readSwallows 29 = .ok (.getfield 79, 3) := by decide +kernel
theorem dX4_readSwallows_32 : decode cX4_readSwallows 32 = .ok (.iload_n 2, 1) := by decide +kernel
theorem dX4_readSwallows_33 : decode cX4_readSwallows 33 = .ok (.aload_n 0, 1) := by decide +kernel
theorem dX4_readSwallows_34 : decode cX4_readSwallows 34 = .ok (.getfield 70, 3) := by decide +kernel
theorem dX4_readSwallows_37 : decode cX4_readSwallows 37 = .ok (.iastore, 1) := by decide +kernel
theorem dX4_readSwallows_38 : decode cX4_readSwallows 38 = .ok (.iconst 1, 1) := by decide +kernel
theorem dX4_readSwallows_39 : decode cX4_readSwallows 39 = .ok (.ireturn, 1) := by decide +kernel
set_option maxRecDepth 20000 in
theorem ggX4_readSource_X4_readNumber : GoodIn wsX4_readSource wsX4_readNumber := goodIn_r _ [10, 11, 2, 12, 13, 14, 9, 15, 16, 17, 18, 19, 20, 21, 22, 23, 24, 25, 26, 27, 28, 29, 30, 31, 32, 33, 46, 47, 48, 49, 50, 51] (by decide +kernel) (by decide +kernel)
set_option maxRecDepth 20000 in
theorem gX4_readSource_X4_readNumber : GoodIn wsX4_readSource (wsV RX4 66 RX4 yX4_readNumber wsX4_readNumber) := goodIn_app (goodIn_of _ (by decide +kernel)) ggX4_readSource_X4_readNumber
theorem dX4_readSource_0 : decode cX4_readSource 0 = .ok (.aload_n 0, 1) := by decide +kernel
theorem dX4_readSource_1 : decode cX4_readSource 1 = .ok (.iconst 0, 1) := by decide +kernel
theorem dX4_readSource_2 : decode cX4_readSource 2 = .ok (.aload_n 1, 1) := by decide +kernel
theorem dX4_readSource_3 : decode cX4_readSource 3 = .ok (.getfield 73, 3) := by decide +kernel
theorem dX4_readSource_6 : decode cX4_readSource 6 = .ok (.invokevirtual 66, 3) := by decide +kernel
theorem dX4_readSource_9 : decode cX4_readSource 9 = .ok (.ifCond .ne 5, 3) := by decide +kernel
theorem dX4_readSource_12 : decode cX4_readSource 12 = .ok (.iconst 0, 1) := by decide +kernel
theorem dX4_readSource_13 : decode cX4_readSource 13 = .ok (.ireturn, 1) := by decide +kernel
theorem dX4_readSource_14 : decode cX4_readSource 14 = .ok (.aload_n 1, 1) := by decide +kernel
theorem dX4_readSource_15 : decode cX4_readSource 15 = .ok (.aload_n 0, 1) := by decide +kernel
theorem dX4_readSource_16 : decode cX4_readSource 16 = .ok (.getfield 70, 3) := by decide +kernel
theorem dX4_readSource_19 : decode cX4_readSource 19 = .ok (.putfield 82, 3) := by decide +kernel
theorem dX4_readSource_22 : decode cX4_readSource 22 = .ok (.aload_n 0, 1) := by decide +kernel
theorem dX4_readSource_23 : decode cX4_readSource 23 = .ok (.iconst 0, 1) := by decide +kernel
theorem dX4_readSource_24 : decode cX4_readSource 24 = .ok (.aload_n 1, 1) := by decide +kernel
theorem dX4_readSource_25 : decode cX4_readSource 25 = .ok (.getfield 76, 3) := by decide +kernel
theorem dX4_readSource_28 : decode cX4_readSource 28 = .ok (.invokevirtual 66, 3) := by decide +kernel
theorem dX4_readSource_31 : decode cX4_readSource 31 = .ok (.ifCond .ne 5, 3) := by decide +kernel
theorem dX4_readSource_34 : decode cX4_readSource 34 = .ok (.iconst 0, 1) := by decide +kernel
theorem dX4_readSource_35 : decode cX4_readSource 35 = .ok (.ireturn, 1) := by decide +kernel
theorem dX4_readSource_36 : decode cX4_readSource 36 = .ok (.aload_n 1, 1) := by decide +kernel
theorem dX4_readSource_37 : decode cX4_readSource 37 = .ok (.aload_n 0, 1) := by decide +kernel
theorem dX4_readSource_38 : decode cX4_readSource 38 = .ok (.getfield 70, 3) := by decide +kernel
theorem dX4_readSource_41 : decode cX4_readSource 41 = .ok (.putfield 85, 3) := by decide +kernel
theorem dX4_readSource_44 : decode cX4_readSource 44 = .ok (.iconst 1, 1) := by decide +kernel
theorem dX4_readSource_45 : decode cX4_readSource 45 = .ok (.ireturn, 1) := by decide +kernel
set_option maxRecDepth 20000 in
theorem ggX4_readSeat_X4_readNumber : GoodIn wsX4_readSeat wsX4_readNumber := goodIn_r _ [11, 12, 4, 13, 14, 15, 10, 16, 17, 18, 19, 20, 21, 22, 23, 24, 25, 26, 27, 28, 29, 30, 31, 32, 33, 34, 47, 48, 49, 50, 51, 52] (by decide +kernel) (by decide +kernel)
set_option maxRecDepth 20000 in
theorem gX4_readSeat_X4_readNumber : GoodIn wsX4_readSeat (wsV RX4 66 RX4 yX4_readNumber wsX4_readNumber) := goodIn_app (goodIn_of _ (by decide +kernel)) ggX4_readSeat_X4_readNumber
theorem dX4_readSeat_0 : decode cX4_readSeat 0 = .ok (.aload_n 0, 1) := by decide +kernel
theorem dX4_readSeat_1 : decode cX4_readSeat 1 = .ok (.iconst 0, 1) := by decide +kernel
theorem dX4_readSeat_2 : decode cX4_readSeat 2 = .ok (.aload_n 1, 1) := by decide +kernel
theorem dX4_readSeat_3 : decode cX4_readSeat 3 = .ok (.getfield 73, 3) := by decide +kernel
theorem dX4_readSeat_6 : decode cX4_readSeat 6 = .ok (.invokevirtual 66, 3) := by decide +kernel
theorem dX4_readSeat_9 : decode cX4_readSeat 9 = .ok (.ifCond .ne 5, 3) := by decide +kernel
theorem dX4_readSeat_12 : decode cX4_readSeat 12 = .ok (.iconst 0, 1) := by decide +kernel
theorem dX4_readSeat_13 : decode cX4_readSeat 13 = .ok (.ireturn, 1) := by decide +kernel
theorem dX4_readSeat_14 : decode cX4_readSeat 14 = .ok (.aload_n 1, 1) := by decide +kernel
theorem dX4_readSeat_15 : decode cX4_readSeat 15 = .ok (.getfield 88, 3) := by decide +kernel
theorem dX4_readSeat_18 : decode cX4_readSeat 18 = .ok (.aload_n 1, 1) := by decide +kernel
theorem dX4_readSeat_19 : decode cX4_readSeat 19 = .ok (.getfield 54, 3) := by decide +kernel
theorem dX4_readSeat_22 : decode cX4_readSeat 22 = .ok (.aload_n 0, 1) := by decide +kernel
theorem dX4_readSeat_23 : decode cX4_readSeat 23 = .ok (.getfield 70, 3) := by decide +kernel
theorem dX4_readSeat_26 : decode cX4_readSeat 26 = .ok (.iastore, 1) := by decide +kernel
theorem dX4_readSeat_27 : decode cX4_readSeat 27 = .ok (.aload_n 0, 1) := by decide +kernel
theorem dX4_readSeat_28 : decode cX4_readSeat 28 = .ok (.iconst 0, 1) := by decide +kernel
theorem dX4_readSeat_29 : decode cX4_readSeat 29 = .ok (.aload_n 1, 1) := by decide +kernel
theorem dX4_readSeat_30 : decode cX4_readSeat 30 = .ok (.getfield 76, 3) := by decide +kernel
theorem dX4_readSeat_33 : decode cX4_readSeat 33 = .ok (.invokevirtual 66, 3) := by decide +kernel
theorem dX4_readSeat_36 : decode cX4_readSeat 36 = .ok (.ifCond .ne 5, 3) := by decide +kernel
theorem dX4_readSeat_39 : decode cX4_readSeat 39 = .ok (.iconst 0, 1) := by decide +kernel
theorem dX4_readSeat_40 : decode cX4_readSeat 40 = .ok (.ireturn, 1) := by decide +kernel
theorem dX4_readSeat_41 : decode cX4_readSeat 41 = .ok (.aload_n 1, 1) := by decide +kernel
theorem dX4_readSeat_42 : decode cX4_readSeat 42 = .ok (.getfield 91, 3) := by decide +kernel
theorem dX4_readSeat_45 : decode cX4_readSeat 45 = .ok (.aload_n 1, 1) := by decide +kernel
theorem dX4_readSeat_46 : decode cX4_readSeat 46 = .ok (.getfield 54, 3) := by decide +kernel
theorem dX4_readSeat_49 : decode cX4_readSeat 49 = .ok (.aload_n 0, 1) := by decide +kernel
theorem dX4_readSeat_50 : decode cX4_readSeat 50 = .ok (.getfield 70, 3) := by decide +kernel
theorem dX4_readSeat_53 : decode cX4_readSeat 53 = .ok (.iastore, 1) := by decide +kernel
theorem dX4_readSeat_54 : decode cX4_readSeat 54 = .ok (.aload_n 1, 1) := by decide +kernel
theorem dX4_readSeat_55 : decode cX4_readSeat 55 = .ok (.dup, 1) := by decide +kernel
theorem dX4_readSeat_56 : decode cX4_readSeat 56 = .ok (.getfield 54, 3) := by decide +kernel
theorem dX4_readSeat_59 : decode cX4_readSeat 59 = .ok (.iconst 1, 1) := by decide +kernel
theorem dX4_readSeat_60 : decode cX4_readSeat 60 = .ok (.iadd, 1) := by decide +kernel
theorem dX4_readSeat_61 : decode cX4_readSeat 61 = .ok (.putfield 54, 3) := by decide +kernel
theorem dX4_readSeat_64 : decode cX4_readSeat 64 = .ok (.iconst 1, 1) := by decide +kernel
theorem dX4_readSeat_65 : decode cX4_readSeat 65 = .ok (.ireturn, 1) := by decide +kernel
set_option maxRecDepth 20000 in
theorem ggX4_readCurtain_X4_readNumber : GoodIn wsX4_readCurtain wsX4_readNumber := goodIn_r _ [12, 13, 4, 14, 15, 16, 11, 17, 18, 19, 20, 21, 22, 23, 24, 25, 26, 27, 28, 29, 30, 31, 32, 33, 34, 35, 48, 49, 50, 51, 52, 53] (by decide +kernel) (by decide +kernel)
set_option maxRecDepth 20000 in
theorem gX4_readCurtain_X4_readNumber : GoodIn wsX4_readCurtain (wsV RX4 66 RX4 yX4_readNumber wsX4_readNumber) := goodIn_app (goodIn_of _ (by decide +kernel)) ggX4_readCurtain_X4_readNumber
theorem dX4_readCurtain_0 : decode cX4_readCurtain 0 = .ok (.aload_n 1, 1) := by decide +kernel
theorem dX4_readCurtain_1 : decode cX4_readCurtain 1 = .ok (.getfield 60, 3) := by decide +kernel
theorem dX4_readCurtain_4 : decode cX4_readCurtain 4 = .ok (.istore_n 2, 1) := by decide +kernel
theorem dX4_readCurtain_5 : decode cX4_readCurtain 5 = .ok (.aload_n 0, 1) := by decide +kernel
theorem dX4_readCurtain_6 : decode cX4_readCurtain 6 = .ok (.iconst 1, 1) := by decide +kernel
theorem dX4_readCurtain_7 : decode cX4_readCurtain 7 = .ok (.aload_n 1, 1) := by decide +kernel
theorem dX4_readCurtain_8 : decode cX4_readCurtain 8 = .ok (.getfield 73, 3) := by decide +kernel
theorem dX4_readCurtain_11 : decode cX4_readCurtain 11 = .ok (.iconst 1, 1) := by decide +kernel
theorem dX4_readCurtain_12 : decode cX4_readCurtain 12 = .ok (.isub, 1) := by decide +kernel
theorem dX4_readCurtain_13 : decode cX4_readCurtain 13 = .ok (.invokevirtual 66, 3) := by decide +kernel
theorem dX4_readCurtain_16 : decode cX4_readCurtain 16 = .ok (.ifCond .ne 5, 3) := by decide +kernel
theorem dX4_readCurtain_19 : decode cX4_readCurtain 19 = .ok (.iconst 0, 1) := by decide +kernel
theorem dX4_readCurtain_20 : decode cX4_readCurtain 20 = .ok (.ireturn, 1) := by decide +kernel
theorem dX4_readCurtain_21 : decode cX4_readCurtain 21 = .ok (.aload_n 1, 1) := by decide +kernel
theorem dX4_readCurtain_22 : decode cX4_readCurtain 22 = .ok (.getfield 94, 3) := by decide +kernel
theorem dX4_readCurtain_25 : decode cX4_readCurtain 25 = .ok (.iload_n 2, 1) := by decide +kernel
theorem dX4_readCurtain_26 : decode cX4_readCurtain 26 = .ok (.aload_n 0, 1) := by decide +kernel
theorem dX4_readCurtain_27 : decode cX4_readCurtain 27 = .ok (.getfield 70, 3) := by decide +kernel
theorem dX4_readCurtain_30 : decode cX4_readCurtain 30 = .ok (.iastore, 1) := by decide +kernel
theorem dX4_readCurtain_31 : decode cX4_readCurtain 31 = .ok (.aload_n 0, 1) := by decide +kernel
theorem dX4_readCurtain_32 : decode cX4_readCurtain 32 = .ok (.iconst 0, 1) := by decide +kernel
theorem dX4_readCurtain_33 : decode cX4_readCurtain 33 = .ok (.aload_n 1, 1) := by decide +kernel
theorem dX4_readCurtain_34 : decode cX4_readCurtain 34 = .ok (.getfield 76, 3) := by decide +kernel
theorem dX4_readCurtain_37 : decode cX4_readCurtain 37 = .ok (.invokevirtual 66, 3) := by decide +kernel
theorem dX4_readCurtain_40 : decode cX4_readCurtain 40 = .ok (.ifCond .ne 5, 3) := by decide +kernel
theorem dX4_readCurtain_43 : decode cX4_readCurtain 43 = .ok (.iconst 0, 1) := by decide +kernel
theorem dX4_readCurtain_44 : decode cX4_readCurtain 44 = .ok (.ireturn, 1) := by decide +kernel
theorem dX4_readCurtain_45 : decode cX4_readCurtain 45 = .ok (.aload_n 1, 1) := by decide +kernel
theorem dX4_readCurtain_46 : decode cX4_readCurtain 46 = .ok (.getfield 97, 3) := by decide +kernel
theorem dX4_readCurtain_49 : decode cX4_readCurtain 49 = .ok (.iload_n 2, 1) := by decide +kernel
theorem dX4_readCurtain_50 : decode cX4_readCurtain 50 = .ok (.aload_n 0, 1) := by decide +kernel
theorem dX4_readCurtain_51 : decode cX4_readCurtain 51 = .ok (.getfield 70, 3) := by decide +kernel
theorem dX4_readCurtain_54 : decode cX4_readCurtain 54 = .ok (.iastore, 1) := by decide +kernel
theorem dX4_readCurtain_55 : decode cX4_readCurtain 55 = .ok (.aload_n 0, 1) := by decide +kernel
theorem dX4_readCurtain_56 : decode cX4_readCurtain 56 = .ok (.aload_n 0, 1) := by decide +kernel
theorem dX4_readCurtain_57 : decode cX4_readCurtain 57 = .ok (.getfield 70, 3) := by decide +kernel
theorem dX4_readCurtain_60 : decode cX4_readCurtain 60 = .ok (.aload_n 1, 1) := by decide +kernel
theorem dX4_readCurtain_61 : decode cX4_readCurtain 61 = .ok (.getfield 76, 3) := by decide +kernel
theorem dX4_readCurtain_64 : decode cX4_readCurtain 64 = .ok (.invokevirtual 66, 3) := by decide +kernel
theorem dX4_readCurtain_67 : decode cX4_readCurtain 67 = .ok (.ifCond .ne 5, 3) := by decide +kernel
theorem dX4_readCurtain_70 : decode cX4_readCurtain 70 = .ok (.iconst 0, 1) := by decide +kernel
theorem dX4_readCurtain_71 : decode cX4_readCurtain 71 = .ok (.ireturn, 1) := by decide +kernel
theorem dX4_readCurtain_72 : decode cX4_readCurtain 72 = .ok (.aload_n 1, 1) := by decide +kernel
theorem dX4_readCurtain_73 : decode cX4_readCurtain 73 = .ok (.getfield 100, 3) := by decide +kernel
theorem dX4_readCurtain_76 : decode cX4_readCurtain 76 = .ok (.iload_n 2, 1) := by decide +kernel
theorem dX4_readCurtain_77 : decode cX4_readCurtain 77 = .ok (.aload_n 0, 1) := by decide +kernel
theorem dX4_readCurtain_78 : decode cX4_readCurtain 78 = .ok (.getfield 70, 3) := by decide +kernel
theorem dX4_readCurtain_81 : decode cX4_readCurtain 81 = .ok (.iastore, 1) := by decide +kernel
theorem dX4_readCurtain_82 : decode cX4_readCurtain 82 = .ok (.aload_n 1, 1) := by decide +kernel
theorem dX4_readCurtain_83 : decode cX4_readCurtain 83 = .ok (.dup, 1) := by decide +kernel
theorem dX4_readCurtain_84 : decode cX4_readCurtain 84 = .ok (.getfield 60, 3) := by decide +kernel
theorem dX4_readCurtain_87 : decode cX4_readCurtain 87 = .ok (.iconst 1, 1) := by decide +kernel
theorem dX4_readCurtain_88 : decode cX4_readCurtain 88 = .ok (.iadd, 1) := by decide +kernel
theorem dX4_readCurtain_89 : decode cX4_readCurtain 89 = .ok (.putfield 60, 3) := by decide +kernel
theorem dX4_readCurtain_92 : decode cX4_readCurtain 92 = .ok (.iconst 1, 1) := by decide +kernel
theorem dX4_readCurtain_93 : decode cX4_readCurtain 93 = .ok (.ireturn, 1) := by decide +kernel
set_option maxRecDepth 20000 in
theorem ggX4_readNumber_X4_nextToken : GoodIn wsX4_readNumber wsX4_nextToken := goodIn_r _ [7, 8, 9, 10, 11, 1, 12, 13, 6, 14, 15, 16, 17, 18, 2, 19, 20, 21, 22, 26, 27, 28, 29, 30, 31] (by decide +kernel) (by decide +kernel)
set_option maxRecDepth 20000 in
theorem gX4_readNumber_X4_nextToken : GoodIn wsX4_readNumber (wsV RX4 27 RX4 yX4_nextToken wsX4_nextToken) := goodIn_app (goodIn_of _ (by decide +kernel)) ggX4_readNumber_X4_nextToken
set_option maxRecDepth 20000 in
theorem ggX4_readNumber_X5_isWithin : GoodIn wsX4_readNumber wsX5_isWithin := goodIn_r _ [25] (by decide +kernel) (by decide +kernel)
set_option maxRecDepth 20000 in
theorem gX4_readNumber_X5_isWithin_n103 : GoodIn wsX4_readNumber (wsX5_isWithin) := ggX4_readNumber_X5_isWithin
theorem dX4_readNumber_0 : decode cX4_readNumber 0 = .ok (.aload_n 0, 1) := by decide +kernel
theorem dX4_readNumber_1 : decode cX4_readNumber 1 = .ok (.invokevirtual 27, 3) := by decide +kernel
theorem dX4_readNumber_4 : decode cX4_readNumber 4 = .ok (.aload_n 0, 1) := by decide +kernel
theorem dX4_readNumber_5 : decode cX4_readNumber 5 = .ok (.getfield 30, 3) := by decide +kernel
theorem dX4_readNumber_8 : decode cX4_readNumber 8 = .ok (.bipush (-2), 2) := by decide +kernel
theorem dX4_readNumber_10 : decode cX4_readNumber 10 = .ok (.if_icmp .ne 19, 3) := by decide +kernel
theorem dX4_readNumber_13 : decode cX4_readNumber 13 = .ok (.aload_n 0, 1) := by decide +kernel
theorem dX4_readNumber_14 : decode cX4_readNumber 14 = .ok (.getfield 70, 3) := by decide +kernel
theorem dX4_readNumber_17 : decode cX4_readNumber 17 = .ok (.iload_n 1, 1) := by decide +kernel
theorem dX4_readNumber_18 : decode cX4_readNumber 18 = .ok (.iload_n 2, 1) := by decide +kernel
theorem dX4_readNumber_19 : decode cX4_readNumber 19 = .ok (.invokestatic 103, 3) := by decide +kernel
theorem dX4_readNumber_22 : decode cX4_readNumber 22 = .ok (.ifCond .eq 7, 3) := by decide +kernel
theorem dX4_readNumber_25 : decode cX4_readNumber 25 = .ok (.iconst 1, 1) := by decide +kernel
theorem dX4_readNumber_26 : decode cX4_readNumber 26 = .ok (.goto 4, 3) := by decide +kernel
theorem dX4_readNumber_29 : decode cX4_readNumber 29 = .ok (.iconst 0, 1) := by decide +kernel
theorem dX4_readNumber_30 : decode cX4_readNumber 30 = .ok (.ireturn, 1) := by decide +kernel
set_option maxRecDepth 20000 in
theorem ggX4_readEnd_X4_nextToken : GoodIn wsX4_readEnd wsX4_nextToken := goodIn_r _ [6, 7, 8, 9, 10, 1, 11, 12, 5, 13, 14, 15, 16, 17, 18, 19, 20, 21, 22, 23, 24, 25, 26, 27, 28] (by decide +kernel) (by decide +kernel)
set_option maxRecDepth 20000 in
theorem gX4_readEnd_X4_nextToken : GoodIn wsX4_readEnd (wsV RX4 27 RX4 yX4_nextToken wsX4_nextToken) := goodIn_app (goodIn_of _ (by decide +kernel)) ggX4_readEnd_X4_nextToken
theorem dX4_readEnd_0 : decode cX4_readEnd 0 = .ok (.aload_n 0, 1) := by decide +kernel
theorem dX4_readEnd_1 : decode cX4_readEnd 1 = .ok (.invokevirtual 27, 3) := by decide +kernel
theorem dX4_readEnd_4 : decode cX4_readEnd 4 = .ok (.aload_n 0, 1) := by decide +kernel
theorem dX4_readEnd_5 : decode cX4_readEnd 5 = .ok (.getfield 30, 3) := by decide +kernel
theorem dX4_readEnd_8 : decode cX4_readEnd 8 = .ok (.bipush 59, 2) := by decide +kernel
theorem dX4_readEnd_10 : decode cX4_readEnd 10 = .ok (.if_icmp .ne 7, 3) := by decide +kernel
theorem dX4_readEnd_13 : decode cX4_readEnd 13 = .ok (.iconst 1, 1) := by decide +kernel
theorem dX4_readEnd_14 : decode cX4_readEnd 14 = .ok (.goto 4, 3) := by decide +kernel
theorem dX4_readEnd_17 : decode cX4_readEnd 17 = .ok (.iconst 0, 1) := by decide +kernel
theorem dX4_readEnd_18 : decode cX4_readEnd 18 = .ok (.ireturn, 1) := by decide +kernel
set_option maxRecDepth 20000 in
theorem ggX4_nextToken_X4_isFigure : GoodIn wsX4_nextToken wsX4_isFigure := goodIn_r _ [9] (by decide +kernel) (by decide +kernel)
set_option maxRecDepth 20000 in
theorem gX4_nextToken_X4_isFigure : GoodIn wsX4_nextToken (va_wsS RX4 107 yX4_isFigure wsX4_isFigure) := goodIn_app (goodIn_of _ (by decide +kernel)) ggX4_nextToken_X4_isFigure
set_option maxRecDepth 20000 in
theorem ggX4_nextToken_X4_takeFigures : GoodIn wsX4_nextToken wsX4_takeFigures := goodIn_r _ [13, 14, 1, 2, 3, 15, 16, 17, 18, 4, 5, 6, 7, 8, 9, 19, 20, 21, 22, 23, 24] (by decide +kernel) (by decide +kernel)
set_option maxRecDepth 20000 in
theorem gX4_nextToken_X4_takeFigures : GoodIn wsX4_nextToken (wsV RX4 111 RX4 yX4_takeFigures wsX4_takeFigures) := goodIn_app (goodIn_of _ (by decide +kernel)) ggX4_nextToken_X4_takeFigures
theorem dX4_nextToken_0 : decode cX4_nextToken 0 = .ok (.aload_n 0, 1) := by decide +kernel
theorem dX4_nextToken_1 : decode cX4_nextToken 1 = .ok (.getfield 24, 3) := by decide +kernel
theorem dX4_nextToken_4 : decode cX4_nextToken 4 = .ok (.aload_n 0, 1) := by decide +kernel
theorem dX4_nextToken_5 : decode cX4_nextToken 5 = .ok (.getfield 15, 3) := by decide +kernel
theorem dX4_nextToken_8 : decode cX4_nextToken 8 = .ok (.if_icmp .ge 30, 3) := by decide +kernel
theorem dX4_nextToken_11 : decode cX4_nextToken 11 = .ok (.aload_n 0, 1) := by decide +kernel
theorem dX4_nextToken_12 : decode cX4_nextToken 12 = .ok (.getfield 9, 3) := by decide +kernel
theorem dX4_nextToken_15 : decode cX4_nextToken 15 = .ok (.aload_n 0, 1) := by decide +kernel
theorem dX4_nextToken_16 : decode cX4_nextToken 16 = .ok (.getfield 24, 3) := by decide +kernel
theorem dX4_nextToken_19 : decode cX4_nextToken 19 = .ok (.iaload, 1) := by decide +kernel
theorem dX4_nextToken_20 : decode cX4_nextToken 20 = .ok (.bipush 32, 2) := by decide +kernel
theorem dX4_nextToken_22 : decode cX4_nextToken 22 = .ok (.if_icmp .ne 16, 3) := by decide +kernel
theorem dX4_nextToken_25 : decode cX4_nextToken 25 = .ok (.aload_n 0, 1) := by decide +kernel
theorem dX4_nextToken_26 : decode cX4_nextToken 26 = .ok (.dup, 1) := by decide +kernel
theorem dX4_nextToken_27 : decode cX4_nextToken 27 = .ok (.getfield 24, 3) := by decide +kernel
theorem dX4_nextToken_30 : decode cX4_nextToken 30 = .ok (.iconst 1, 1) := by decide +kernel
theorem dX4_nextToken_31 : decode cX4_nextToken 31 = .ok (.iadd, 1) := by decide +kernel
theorem dX4_nextToken_32 : decode cX4_nextToken 32 = .ok (.putfield 24, 3) := by decide +kernel
theorem dX4_nextToken_35 : decode cX4_nextToken 35 = .ok (.goto (-35), 3) := by decide +kernel
theorem dX4_nextToken_38 : decode cX4_nextToken 38 = .ok (.aload_n 0, 1) := by decide +kernel
theorem dX4_nextToken_39 : decode cX4_nextToken 39 = .ok (.aload_n 0, 1) := by decide +kernel
theorem dX4_nextToken_40 : decode cX4_nextToken 40 = .ok (.getfield 24, 3) := by decide +kernel
theorem dX4_nextToken_43 : decode cX4_nextToken 43 = .ok (.putfield 41, 3) := by decide +kernel
theorem dX4_nextToken_46 : decode cX4_nextToken 46 = .ok (.aload_n 0, 1) := by decide +kernel
theorem dX4_nextToken_47 : decode cX4_nextToken 47 = .ok (.getfield 24, 3) := by decide +kernel
theorem dX4_nextToken_50 : decode cX4_nextToken 50 = .ok (.aload_n 0, 1) := by decide +kernel
theorem dX4_nextToken_51 : decode cX4_nextToken 51 = .ok (.getfield 15, 3) := by decide +kernel
theorem dX4_nextToken_54 : decode cX4_nextToken 54 = .ok (.if_icmp .lt 11, 3) := by decide +kernel
theorem dX4_nextToken_57 : decode cX4_nextToken 57 = .ok (.aload_n 0, 1) := by decide +kernel
theorem dX4_nextToken_58 : decode cX4_nextToken 58 = .ok (.iconst (-1), 1) := by decide +kernel
theorem dX4_nextToken_59 : decode cX4_nextToken 59 = .ok (.putfield 30, 3) := by decide +kernel
theorem dX4_nextToken_62 : decode cX4_nextToken 62 = .ok (.goto 48, 3) := by decide +kernel
theorem dX4_nextToken_65 : decode cX4_nextToken 65 = .ok (.aload_n 0, 1) := by decide +kernel
theorem dX4_nextToken_66 : decode cX4_nextToken 66 = .ok (.getfield 9, 3) := by decide +kernel
theorem dX4_nextToken_69 : decode cX4_nextToken 69 = .ok (.aload_n 0, 1) := by decide +kernel
theorem dX4_nextToken_70 : decode cX4_nextToken 70 = .ok (.getfield 24, 3) := by decide +kernel
theorem dX4_nextToken_73 : decode cX4_nextToken 73 = .ok (.iaload, 1) := by decide +kernel
theorem dX4_nextToken_74 : decode cX4_nextToken 74 = .ok (.invokestatic 107, 3) := by decide +kernel
theorem dX4_nextToken_77 : decode cX4_nextToken 77 = .ok (.ifCond .eq 10, 3) := by decide +kernel
theorem dX4_nextToken_80 : decode cX4_nextToken 80 = .ok (.aload_n 0, 1) := by decide +kernel
theorem dX4_nextToken_81 : decode cX4_nextToken 81 = .ok (.invokevirtual 111, 3) := by decide +kernel
theorem dX4_nextToken_84 : decode cX4_nextToken 84 = .ok (.goto 26, 3) := by decide +kernel
theorem dX4_nextToken_87 : decode cX4_nextToken 87 = .ok (.aload_n 0, 1) := by decide +kernel
theorem dX4_nextToken_88 : decode cX4_nextToken 88 = .ok (.aload_n 0, 1) := by decide +kernel
theorem dX4_nextToken_89 : decode cX4_nextToken 89 = .ok (.getfield 9, 3) := by decide +kernel
theorem dX4_nextToken_92 : decode cX4_nextToken 92 = .ok (.aload_n 0, 1) := by decide +kernel
theorem dX4_nextToken_93 : decode cX4_nextToken 93 = .ok (.getfield 24, 3) := by decide +kernel
theorem dX4_nextToken_96 : decode cX4_nextToken 96 = .ok (.iaload, 1) := by decide +kernel
theorem dX4_nextToken_97 : decode cX4_nextToken 97 = .ok (.putfield 30, 3) := by decide +kernel
theorem dX4_nextToken_100 : decode cX4_nextToken 100 = .ok (.aload_n 0, 1) := by decide +kernel
theorem dX4_nextToken_101 : decode cX4_nextToken 101 = .ok (.dup, 1) := by decide +kernel
theorem dX4_nextToken_102 : decode cX4_nextToken 102 = .ok (.getfield 24, 3) := by decide +kernel
theorem dX4_nextToken_105 : decode cX4_nextToken 105 = .ok (.iconst 1, 1) := by decide +kernel
theorem dX4_nextToken_106 : decode cX4_nextToken 106 = .ok (.iadd, 1) := by decide +kernel
theorem dX4_nextToken_107 : decode cX4_nextToken 107 = .ok (.putfield 24, 3) := by decide +kernel
theorem dX4_nextToken_110 : decode cX4_nextToken 110 = .ok (.return_, 1) := by decide +kernel
set_option maxRecDepth 20000 in
theorem ggX4_takeFigures_X4_isFigure : GoodIn wsX4_takeFigures wsX4_isFigure := goodIn_r _ [14] (by decide +kernel) (by decide +kernel)
set_option maxRecDepth 20000 in
theorem gX4_takeFigures_X4_isFigure : GoodIn wsX4_takeFigures (va_wsS RX4 107 yX4_isFigure wsX4_isFigure) := goodIn_app (goodIn_of _ (by decide +kernel)) ggX4_takeFigures_X4_isFigure
theorem dX4_takeFigures_0 : decode cX4_takeFigures 0 = .ok (.aload_n 0, 1) := by decide +kernel
theorem dX4_takeFigures_1 : decode cX4_takeFigures 1 = .ok (.iconst 0, 1) := by decide +kernel
theorem dX4_takeFigures_2 : decode cX4_takeFigures 2 = .ok (.putfield 70, 3) := by decide +kernel
theorem dX4_takeFigures_5 : decode cX4_takeFigures 5 = .ok (.aload_n 0, 1) := by decide +kernel
theorem dX4_takeFigures_6 : decode cX4_takeFigures 6 = .ok (.getfield 24, 3) := by decide +kernel
theorem dX4_takeFigures_9 : decode cX4_takeFigures 9 = .ok (.aload_n 0, 1) := by decide +kernel
theorem dX4_takeFigures_10 : decode cX4_takeFigures 10 = .ok (.getfield 15, 3) := by decide +kernel
theorem dX4_takeFigures_13 : decode cX4_takeFigures 13 = .ok (.if_icmp .ge 60, 3) := by decide +kernel
theorem dX4_takeFigures_16 : decode cX4_takeFigures 16 = .ok (.aload_n 0, 1) := by decide +kernel
theorem dX4_takeFigures_17 : decode cX4_takeFigures 17 = .ok (.getfield 9, 3) := by decide +kernel
theorem dX4_takeFigures_20 : decode cX4_takeFigures 20 = .ok (.aload_n 0, 1) := by decide +kernel
theorem dX4_takeFigures_21 : decode cX4_takeFigures 21 = .ok (.getfield 24, 3) := by decide +kernel
theorem dX4_takeFigures_24 : decode cX4_takeFigures 24 = .ok (.iaload, 1) := by decide +kernel
theorem dX4_takeFigures_25 : decode cX4_takeFigures 25 = .ok (.invokestatic 107, 3) := by decide +kernel
theorem dX4_takeFigures_28 : decode cX4_takeFigures 28 = .ok (.ifCond .eq 45, 3) := by decide +kernel
theorem dX4_takeFigures_31 : decode cX4_takeFigures 31 = .ok (.aload_n 0, 1) := by decide +kernel
theorem dX4_takeFigures_32 : decode cX4_takeFigures 32 = .ok (.bipush 100, 2) := by decide +kernel
theorem dX4_takeFigures_34 : decode cX4_takeFigures 34 = .ok (.bipush 10, 2) := by decide +kernel
theorem dX4_takeFigures_36 : decode cX4_takeFigures 36 = .ok (.aload_n 0, 1) := by decide +kernel
theorem dX4_takeFigures_37 : decode cX4_takeFigures 37 = .ok (.getfield 70, 3) := by decide +kernel
theorem dX4_takeFigures_40 : decode cX4_takeFigures 40 = .ok (.imul, 1) := by decide +kernel
theorem dX4_takeFigures_41 : decode cX4_takeFigures 41 = .ok (.aload_n 0, 1) := by decide +kernel
theorem dX4_takeFigures_42 : decode cX4_takeFigures 42 = .ok (.getfield 9, 3) := by decide +kernel
theorem dX4_takeFigures_45 : decode cX4_takeFigures 45 = .ok (.aload_n 0, 1) := by decide +kernel
theorem dX4_takeFigures_46 : decode cX4_takeFigures 46 = .ok (.getfield 24, 3) := by decide +kernel
theorem dX4_takeFigures_49 : decode cX4_takeFigures 49 = .ok (.iaload, 1) := by decide +kernel
theorem dX4_takeFigures_50 : decode cX4_takeFigures 50 = .ok (.iadd, 1) := by decide +kernel
theorem dX4_takeFigures_51 : decode cX4_takeFigures 51 = .ok (.bipush 48, 2) := by decide +kernel
theorem dX4_takeFigures_53 : decode cX4_takeFigures 53 = .ok (.isub, 1) := by decide +kernel
theorem dX4_takeFigures_54 : decode cX4_takeFigures 54 = .ok (.invokestatic 114, 3) := by decide +kernel
theorem dX4_takeFigures_57 : decode cX4_takeFigures 57 = .ok (.putfield 70, 3) := by decide +kernel
theorem dX4_takeFigures_60 : decode cX4_takeFigures 60 = .ok (.aload_n 0, 1) := by decide +kernel
theorem dX4_takeFigures_61 : decode cX4_takeFigures 61 = .ok (.dup, 1) := by decide +kernel
theorem dX4_takeFigures_62 : decode cX4_takeFigures 62 = .ok (.getfield 24, 3) := by decide +kernel
theorem dX4_takeFigures_65 : decode cX4_takeFigures 65 = .ok (.iconst 1, 1) := by decide +kernel
theorem dX4_takeFigures_66 : decode cX4_takeFigures 66 = .ok (.iadd, 1) := by decide +kernel
theorem dX4_takeFigures_67 : decode cX4_takeFigures 67 = .ok (.putfield 24, 3) := by decide +kernel
theorem dX4_takeFigures_70 : decode cX4_takeFigures 70 = .ok (.goto (-65), 3) := by decide +kernel
theorem dX4_takeFigures_73 : decode cX4_takeFigures 73 = .ok (.aload_n 0, 1) := by decide +kernel
theorem dX4_takeFigures_74 : decode cX4_takeFigures 74 = .ok (.getfield 9, 3) := by decide +kernel
theorem dX4_takeFigures_77 : decode cX4_takeFigures 77 = .ok (.aload_n 0, 1) := by decide +kernel
theorem dX4_takeFigures_78 : decode cX4_takeFigures 78 = .ok (.getfield 41, 3) := by decide +kernel
theorem dX4_takeFigures_81 : decode cX4_takeFigures 81 = .ok (.iaload, 1) := by decide +kernel
theorem dX4_takeFigures_82 : decode cX4_takeFigures 82 = .ok (.bipush 48, 2) := by decide +kernel
theorem dX4_takeFigures_84 : decode cX4_takeFigures 84 = .ok (.if_icmp .ne 20, 3) := by decide +kernel
theorem dX4_takeFigures_87 : decode cX4_takeFigures 87 = .ok (.aload_n 0, 1) := by decide +kernel
theorem dX4_takeFigures_88 : decode cX4_takeFigures 88 = .ok (.getfield 24, 3) := by decide +kernel
theorem dX4_takeFigures_91 : decode cX4_takeFigures 91 = .ok (.aload_n 0, 1) := by decide +kernel
theorem dX4_takeFigures_92 : decode cX4_takeFigures 92 = .ok (.getfield 41, 3) := by decide +kernel
theorem dX4_takeFigures_95 : decode cX4_takeFigures 95 = .ok (.isub, 1) := by decide +kernel
theorem dX4_takeFigures_96 : decode cX4_takeFigures 96 = .ok (.iconst 1, 1) := by decide +kernel
theorem dX4_takeFigures_97 : decode cX4_takeFigures 97 = .ok (.if_icmp .le 7, 3) := by decide +kernel
theorem dX4_takeFigures_100 : decode cX4_takeFigures 100 = .ok (.iconst 1, 1) := by decide +kernel
theorem dX4_takeFigures_101 : decode cX4_takeFigures 101 = .ok (.goto 4, 3) := by decide +kernel
theorem dX4_takeFigures_104 : decode cX4_takeFigures 104 = .ok (.iconst 0, 1) := by decide +kernel
theorem dX4_takeFigures_105 : decode cX4_takeFigures 105 = .ok (.istore_n 1, 1) := by decide +kernel
theorem dX4_takeFigures_106 : decode cX4_takeFigures 106 = .ok (.aload_n 0, 1) := by decide +kernel
theorem dX4_takeFigures_107 : decode cX4_takeFigures 107 = .ok (.aload_n 0, 1) := by decide +kernel
theorem dX4_takeFigures_108 : decode cX4_takeFigures 108 = .ok (.getfield 70, 3) := by decide +kernel
theorem dX4_takeFigures_111 : decode cX4_takeFigures 111 = .ok (.bipush 99, 2) := by decide +kernel
theorem dX4_takeFigures_113 : decode cX4_takeFigures 113 = .ok (.if_icmp .gt 7, 3) := by decide +kernel
theorem dX4_takeFigures_116 : decode cX4_takeFigures 116 = .ok (.iload_n 1, 1) := by decide +kernel
theorem dX4_takeFigures_117 : decode cX4_takeFigures 117 = .ok (.ifCond .eq 8, 3) := by decide +kernel
theorem dX4_takeFigures_120 : decode cX4_takeFigures 120 = .ok (.bipush (-3), 2) := by decide +kernel
theorem dX4_takeFigures_122 : decode cX4_takeFigures 122 = .ok (.goto 5, 3) := by decide +kernel
theorem dX4_takeFigures_125 : decode cX4_takeFigures 125 = .ok (.bipush (-2), 2) := by decide +kernel
theorem dX4_takeFigures_127 : decode cX4_takeFigures 127 = .ok (.putfield 30, 3) := by decide +kernel
theorem dX4_takeFigures_130 : decode cX4_takeFigures 130 = .ok (.return_, 1) := by decide +kernel
theorem dX4_isFigure_0 : decode cX4_isFigure 0 = .ok (.iload_n 0, 1) := by decide +kernel
theorem dX4_isFigure_1 : decode cX4_isFigure 1 = .ok (.bipush 48, 2) := by decide +kernel
theorem dX4_isFigure_3 : decode cX4_isFigure 3 = .ok (.if_icmp .lt 13, 3) := by decide +kernel
theorem dX4_isFigure_6 : decode cX4_isFigure 6 = .ok (.iload_n 0, 1) := by decide +kernel
theorem dX4_isFigure_7 : decode cX4_isFigure 7 = .ok (.bipush 57, 2) := by decide +kernel
theorem dX4_isFigure_9 : decode cX4_isFigure 9 = .ok (.if_icmp .gt 7, 3) := by decide +kernel
theorem dX4_isFigure_12 : decode cX4_isFigure 12 = .ok (.iconst 1, 1) := by decide +kernel
theorem dX4_isFigure_13 : decode cX4_isFigure 13 = .ok (.goto 4, 3) := by decide +kernel
theorem dX4_isFigure_16 : decode cX4_isFigure 16 = .ok (.iconst 0, 1) := by decide +kernel
theorem dX4_isFigure_17 : decode cX4_isFigure 17 = .ok (.ireturn, 1) := by decide +kernel
set_option maxRecDepth 20000 in
theorem ggX5_init_X3_init : GoodIn wsX5_init wsX3_init := goodIn_r _ [30, 31, 2, 3, 32, 33, 34, 35, 36, 37, 38, 39, 40, 41, 6, 42, 43, 44, 45, 46, 47, 48, 49, 50, 51, 52, 86, 87, 88, 89, 90, 91, 92, 93, 94, 95, 96, 97] (by decide +kernel) (by decide +kernel)
set_option maxRecDepth 20000 in
theorem gX5_init_X3_init : GoodIn wsX5_init (wsX3_init) := ggX5_init_X3_init
set_option maxRecDepth 20000 in
theorem ggX5_init_X4_init : GoodIn wsX5_init wsX4_init := goodIn_r _ [55, 56, 2, 3, 32, 57, 106, 107, 108, 109, 110, 111] (by decide +kernel) (by decide +kernel)
set_option maxRecDepth 20000 in
theorem gX5_init_X4_init : GoodIn wsX5_init (wsX4_init) := ggX5_init_X4_init
set_option maxRecDepth 20000 in
theorem ggX5_init_X2_init : GoodIn wsX5_init wsX2_init := goodIn_r _ [60, 61, 2, 3, 32, 62, 63, 64, 65, 112, 113, 114, 115, 116] (by decide +kernel) (by decide +kernel)
set_option maxRecDepth 20000 in
theorem gX5_init_X2_init : GoodIn wsX5_init (wsX2_init) := ggX5_init_X2_init
set_option maxRecDepth 20000 in
theorem ggX5_init_X0_init : GoodIn wsX5_init wsX0_init := goodIn_r _ [68, 69, 2, 3, 32, 70, 71, 72, 73, 74, 75, 117, 118, 119, 120, 121, 122, 123, 124] (by decide +kernel) (by decide +kernel)
set_option maxRecDepth 20000 in
theorem gX5_init_X0_init : GoodIn wsX5_init (wsX0_init) := ggX5_init_X0_init
set_option maxRecDepth 20000 in
theorem ggX5_init_X1_init : GoodIn wsX5_init wsX1_init := goodIn_r _ [78, 79, 2, 3, 32, 80, 81, 82, 83, 84, 85, 125, 126, 127, 128, 129, 130, 131, 132] (by decide +kernel) (by decide +kernel)
set_option maxRecDepth 20000 in
theorem gX5_init_X1_init : GoodIn wsX5_init (wsX1_init) := ggX5_init_X1_init
theorem dX5_init_0 : decode cX5_init 0 = .ok (.aload_n 0, 1) := by decide +kernel
theorem dX5_init_1 : decode cX5_init 1 = .ok (.invokespecial 1, 3) := by decide +kernel
theorem dX5_init_4 : decode cX5_init 4 = .ok (.aload_n 0, 1) := by decide +kernel
theorem dX5_init_5 : decode cX5_init 5 = .ok (.new 7, 3) := by decide +kernel
theorem dX5_init_8 : decode cX5_init 8 = .ok (.dup, 1) := by decide +kernel
theorem dX5_init_9 : decode cX5_init 9 = .ok (.invokespecial 9, 3) := by decide +kernel
theorem dX5_init_12 : decode cX5_init 12 = .ok (.putfield 10, 3) := by decide +kernel
theorem dX5_init_15 : decode cX5_init 15 = .ok (.aload_n 0, 1) := by decide +kernel
theorem dX5_init_16 : decode cX5_init 16 = .ok (.new 7, 3) := by decide +kernel
theorem dX5_init_19 : decode cX5_init 19 = .ok (.dup, 1) := by decide +kernel
theorem dX5_init_20 : decode cX5_init 20 = .ok (.invokespecial 9, 3) := by decide +kernel
theorem dX5_init_23 : decode cX5_init 23 = .ok (.putfield 16, 3) := by decide +kernel
theorem dX5_init_26 : decode cX5_init 26 = .ok (.aload_n 0, 1) := by decide +kernel
theorem dX5_init_27 : decode cX5_init 27 = .ok (.iconst 2, 1) := by decide +kernel
theorem dX5_init_28 : decode cX5_init 28 = .ok (.anewarray 7, 3) := by decide +kernel
theorem dX5_init_31 : decode cX5_init 31 = .ok (.putfield 19, 3) := by decide +kernel
theorem dX5_init_34 : decode cX5_init 34 = .ok (.iconst 0, 1) := by decide +kernel
theorem dX5_init_35 : decode cX5_init 35 = .ok (.istore_n 1, 1) := by decide +kernel
theorem dX5_init_36 : decode cX5_init 36 = .ok (.iload_n 1, 1) := by decide +kernel
theorem dX5_init_37 : decode cX5_init 37 = .ok (.iconst 2, 1) := by decide +kernel
theorem dX5_init_38 : decode cX5_init 38 = .ok (.if_icmp .ge 22, 3) := by decide +kernel
theorem dX5_init_41 : decode cX5_init 41 = .ok (.aload_n 0, 1) := by decide +kernel
theorem dX5_init_42 : decode cX5_init 42 = .ok (.getfield 19, 3) := by decide +kernel
theorem dX5_init_45 : decode cX5_init 45 = .ok (.iload_n 1, 1) := by decide +kernel
theorem dX5_init_46 : decode cX5_init 46 = .ok (.new 7, 3) := by decide +kernel
theorem dX5_init_49 : decode cX5_init 49 = .ok (.dup, 1) := by decide +kernel
theorem dX5_init_50 : decode cX5_init 50 = .ok (.invokespecial 9, 3) := by decide +kernel
theorem dX5_init_53 : decode cX5_init 53 = .ok (.aastore, 1) := by decide +kernel
theorem dX5_init_54 : decode cX5_init 54 = .ok (.iinc 1 1, 3) := by decide +kernel
theorem dX5_init_57 : decode cX5_init 57 = .ok (.goto (-21), 3) := by decide +kernel
theorem dX5_init_60 : decode cX5_init 60 = .ok (.aload_n 0, 1) := by decide +kernel
theorem dX5_init_61 : decode cX5_init 61 = .ok (.iconst 2, 1) := by decide +kernel
theorem dX5_init_62 : decode cX5_init 62 = .ok (.newarray .boolean, 2) := by decide +kernel
theorem dX5_init_64 : decode cX5_init 64 = .ok (.putfield 23, 3) := by decide +kernel
theorem dX5_init_67 : decode cX5_init 67 = .ok (.aload_n 0, 1) := by decide +kernel
theorem dX5_init_68 : decode cX5_init 68 = .ok (.new 27, 3) := by decide +kernel
theorem dX5_init_71 : decode cX5_init 71 = .ok (.dup, 1) := by decide +kernel
theorem dX5_init_72 : decode cX5_init 72 = .ok (.invokespecial 29, 3) := by decide +kernel
theorem dX5_init_75 : decode cX5_init 75 = .ok (.putfield 30, 3) := by decide +kernel
theorem dX5_init_78 : decode cX5_init 78 = .ok (.aload_n 0, 1) := by decide +kernel
theorem dX5_init_79 : decode cX5_init 79 = .ok (.new 34, 3) := by decide +kernel
theorem dX5_init_82 : decode cX5_init 82 = .ok (.dup, 1) := by decide +kernel
theorem dX5_init_83 : decode cX5_init 83 = .ok (.invokespecial 36, 3) := by decide +kernel
theorem dX5_init_86 : decode cX5_init 86 = .ok (.putfield 37, 3) := by decide +kernel
theorem dX5_init_89 : decode cX5_init 89 = .ok (.aload_n 0, 1) := by decide +kernel
theorem dX5_init_90 : decode cX5_init 90 = .ok (.new 41, 3) := by decide +kernel
theorem dX5_init_93 : decode cX5_init 93 = .ok (.dup, 1) := by decide +kernel
theorem dX5_init_94 : decode cX5_init 94 = .ok (.invokespecial 43, 3) := by decide +kernel
theorem dX5_init_97 : decode cX5_init 97 = .ok (.putfield 44, 3) := by decide +kernel
theorem dX5_init_100 : decode cX5_init 100 = .ok (.aload_n 0, 1) := by decide +kernel
theorem dX5_init_101 : decode cX5_init 101 = .ok (.new 48, 3) := by decide +kernel
theorem dX5_init_104 : decode cX5_init 104 = .ok (.dup, 1) := by decide +kernel
theorem dX5_init_105 : decode cX5_init 105 = .ok (.invokespecial 50, 3) := by decide +kernel
theorem dX5_init_108 : decode cX5_init 108 = .ok (.putfield 51, 3) := by decide +kernel
theorem dX5_init_111 : decode cX5_init 111 = .ok (.return_, 1) := by decide +kernel
set_option maxRecDepth 20000 in
theorem ggX5_type_X5_isWithin : GoodIn wsX5_type wsX5_isWithin := goodIn_r _ [6] (by decide +kernel) (by decide +kernel)
set_option maxRecDepth 20000 in
theorem gX5_type_X5_isWithin : GoodIn wsX5_type (va_wsS RX5 55 yX5_isWithin wsX5_isWithin) := goodIn_app (goodIn_of _ (by decide +kernel)) ggX5_type_X5_isWithin
set_option maxRecDepth 20000 in
theorem ggX5_type_X4_append : GoodIn wsX5_type wsX4_append := goodIn_r _ [11, 12, 13, 22, 23, 24, 25, 26, 27] (by decide +kernel) (by decide +kernel)
set_option maxRecDepth 20000 in
theorem gX5_type_X4_append : GoodIn wsX5_type (wsV RX5 59 RX4 yX4_append wsX4_append) := goodIn_app (goodIn_of _ (by decide +kernel)) ggX5_type_X4_append
theorem dX5_type_0 : decode cX5_type 0 = .ok (.iload_n 1, 1) := by decide +kernel
theorem dX5_type_1 : decode cX5_type 1 = .ok (.iconst 0, 1) := by decide +kernel
theorem dX5_type_2 : decode cX5_type 2 = .ok (.sipush 255, 3) := by decide +kernel
theorem dX5_type_5 : decode cX5_type 5 = .ok (.invokestatic 55, 3) := by decide +kernel
theorem dX5_type_8 : decode cX5_type 8 = .ok (.ifCond .ne 5, 3) := by decide +kernel
theorem dX5_type_11 : decode cX5_type 11 = .ok (.iconst (-1), 1) := by decide +kernel
theorem dX5_type_12 : decode cX5_type 12 = .ok (.ireturn, 1) := by decide +kernel
theorem dX5_type_13 : decode cX5_type 13 = .ok (.aload_n 0, 1) := by decide +kernel
theorem dX5_type_14 : decode cX5_type 14 = .ok (.getfield 30, 3) := by decide +kernel
theorem dX5_type_17 : decode cX5_type 17 = .ok (.iload_n 1, 1) := by decide +kernel
theorem dX5_type_18 : decode cX5_type 18 = .ok (.invokevirtual 59, 3) := by decide +kernel
theorem dX5_type_21 : decode cX5_type 21 = .ok (.ifCond .eq 13, 3) := by decide +kernel
theorem dX5_type_24 : decode cX5_type 24 = .ok (.aload_n 0, 1) := by decide +kernel
theorem dX5_type_25 : decode cX5_type 25 = .ok (.getfield 30, 3) := by decide +kernel
theorem dX5_type_28 : decode cX5_type 28 = .ok (.getfield 63, 3) := by decide +kernel
theorem dX5_type_31 : decode cX5_type 31 = .ok (.goto 5, 3) := by decide +kernel
theorem dX5_type_34 : decode cX5_type 34 = .ok (.bipush (-3), 2) := by decide +kernel
theorem dX5_type_36 : decode cX5_type 36 = .ok (.ireturn, 1) := by decide +kernel
theorem dX5_clear_0 : decode cX5_clear 0 = .ok (.aload_n 0, 1) := by decide +kernel
theorem dX5_clear_1 : decode cX5_clear 1 = .ok (.getfield 30, 3) := by decide +kernel
theorem dX5_clear_4 : decode cX5_clear 4 = .ok (.getfield 63, 3) := by decide +kernel
theorem dX5_clear_7 : decode cX5_clear 7 = .ok (.istore_n 1, 1) := by decide +kernel
theorem dX5_clear_8 : decode cX5_clear 8 = .ok (.aload_n 0, 1) := by decide +kernel
theorem dX5_clear_9 : decode cX5_clear 9 = .ok (.getfield 30, 3) := by decide +kernel
theorem dX5_clear_12 : decode cX5_clear 12 = .ok (.iconst 0, 1) := by decide +kernel
theorem dX5_clear_13 : decode cX5_clear 13 = .ok (.putfield 63, 3) := by decide +kernel
theorem dX5_clear_16 : decode cX5_clear 16 = .ok (.iload_n 1, 1) := by decide +kernel
theorem dX5_clear_17 : decode cX5_clear 17 = .ok (.ireturn, 1) := by decide +kernel
set_option maxRecDepth 20000 in
theorem ggX5_room_X4_readInto : GoodIn wsX5_room wsX4_readInto := goodIn_r _ [13, 14, 15, 16, 17, 18, 19, 20, 21, 22, 23, 24, 25, 26, 27, 28, 29, 30, 31, 32, 33, 34, 35, 12, 36, 37, 38, 39, 40, 41, 42, 43, 44, 45, 46, 47, 48, 49, 50, 51, 52, 53, 54, 55, 56, 57, 58, 59, 60, 61, 62, 63, 64, 65, 66, 67, 68, 69, 70, 71, 72, 73, 74, 75, 76, 77, 78, 79, 80, 81, 82, 83, 84, 85, 86, 87, 88, 89, 90, 91, 92, 93, 94, 95, 96, 97, 124, 125, 126, 127, 128, 129, 143, 144, 145, 146, 147, 148, 149, 150, 151, 152, 153, 154] (by decide +kernel) (by decide +kernel)
set_option maxRecDepth 20000 in
theorem gX5_room_X4_readInto : GoodIn wsX5_room (wsV RX5 67 RX4 yX4_readInto wsX4_readInto) := goodIn_app (goodIn_of _ (by decide +kernel)) ggX5_room_X4_readInto
set_option maxRecDepth 20000 in
theorem ggX5_room_X3_copyFrom : GoodIn wsX5_room wsX3_copyFrom := goodIn_r _ [101, 22, 23, 24, 25, 26, 27, 28, 102, 103, 104, 105, 106, 107, 108, 109, 110, 143, 144, 145, 146, 147, 148, 149, 150, 151, 152, 153, 154] (by decide +kernel) (by decide +kernel)
set_option maxRecDepth 20000 in
theorem gX5_room_X3_copyFrom : GoodIn wsX5_room (wsV RX5 71 RX3 yX3_copyFrom wsX3_copyFrom) := goodIn_app (goodIn_of _ (by decide +kernel)) ggX5_room_X3_copyFrom
set_option maxRecDepth 20000 in
theorem ggX5_room_X5_dropKept : GoodIn wsX5_room wsX5_dropKept := goodIn_r _ [114, 115, 116, 117, 118, 119, 120, 121, 122, 123] (by decide +kernel) (by decide +kernel)
set_option maxRecDepth 20000 in
theorem gX5_room_X5_dropKept : GoodIn wsX5_room (wsV RX5 79 RX5 yX5_dropKept wsX5_dropKept) := goodIn_app (goodIn_of _ (by decide +kernel)) ggX5_room_X5_dropKept
theorem dX5_room_0 : decode cX5_room 0 = .ok (.aload_n 0, 1) := by decide +kernel
theorem dX5_room_1 : decode cX5_room 1 = .ok (.getfield 30, 3) := by decide +kernel
theorem dX5_room_4 : decode cX5_room 4 = .ok (.aload_n 0, 1) := by decide +kernel
theorem dX5_room_5 : decode cX5_room 5 = .ok (.getfield 16, 3) := by decide +kernel
theorem dX5_room_8 : decode cX5_room 8 = .ok (.invokevirtual 67, 3) := by decide +kernel
theorem dX5_room_11 : decode cX5_room 11 = .ok (.istore_n 1, 1) := by decide +kernel
theorem dX5_room_12 : decode cX5_room 12 = .ok (.iload_n 1, 1) := by decide +kernel
theorem dX5_room_13 : decode cX5_room 13 = .ok (.ifCond .ge 5, 3) := by decide +kernel
theorem dX5_room_16 : decode cX5_room 16 = .ok (.iload_n 1, 1) := by decide +kernel
theorem dX5_room_17 : decode cX5_room 17 = .ok (.ireturn, 1) := by decide +kernel
theorem dX5_room_18 : decode cX5_room 18 = .ok (.aload_n 0, 1) := by decide +kernel
theorem dX5_room_19 : decode cX5_room 19 = .ok (.getfield 10, 3) := by decide +kernel
theorem dX5_room_22 : decode cX5_room 22 = .ok (.aload_n 0, 1) := by decide +kernel
theorem dX5_room_23 : decode cX5_room 23 = .ok (.getfield 16, 3) := by decide +kernel
theorem dX5_room_26 : decode cX5_room 26 = .ok (.invokevirtual 71, 3) := by decide +kernel
theorem dX5_room_29 : decode cX5_room 29 = .ok (.aload_n 0, 1) := by decide +kernel
theorem dX5_room_30 : decode cX5_room 30 = .ok (.getfield 30, 3) := by decide +kernel
theorem dX5_room_33 : decode cX5_room 33 = .ok (.iconst 0, 1) := by decide +kernel
theorem dX5_room_34 : decode cX5_room 34 = .ok (.putfield 63, 3) := by decide +kernel
theorem dX5_room_37 : decode cX5_room 37 = .ok (.aload_n 0, 1) := by decide +kernel
theorem dX5_room_38 : decode cX5_room 38 = .ok (.getfield 37, 3) := by decide +kernel
theorem dX5_room_41 : decode cX5_room 41 = .ok (.iconst 0, 1) := by decide +kernel
theorem dX5_room_42 : decode cX5_room 42 = .ok (.putfield 75, 3) := by decide +kernel
theorem dX5_room_45 : decode cX5_room 45 = .ok (.aload_n 0, 1) := by decide +kernel
theorem dX5_room_46 : decode cX5_room 46 = .ok (.getfield 51, 3) := by decide +kernel
theorem dX5_room_49 : decode cX5_room 49 = .ok (.iconst 0, 1) := by decide +kernel
theorem dX5_room_50 : decode cX5_room 50 = .ok (.putfield 76, 3) := by decide +kernel
theorem dX5_room_53 : decode cX5_room 53 = .ok (.aload_n 0, 1) := by decide +kernel
theorem dX5_room_54 : decode cX5_room 54 = .ok (.invokevirtual 79, 3) := by decide +kernel
theorem dX5_room_57 : decode cX5_room 57 = .ok (.iload_n 1, 1) := by decide +kernel
theorem dX5_room_58 : decode cX5_room 58 = .ok (.ireturn, 1) := by decide +kernel
set_option maxRecDepth 20000 in
theorem ggX5_wall_X5_isWithin : GoodIn wsX5_wall wsX5_isWithin := goodIn_r _ [6] (by decide +kernel) (by decide +kernel)
set_option maxRecDepth 20000 in
theorem gX5_wall_X5_isWithin : GoodIn wsX5_wall (va_wsS RX5 55 yX5_isWithin wsX5_isWithin) := goodIn_app (goodIn_of _ (by decide +kernel)) ggX5_wall_X5_isWithin
theorem dX5_wall_0 : decode cX5_wall 0 = .ok (.iload_n 1, 1) := by decide +kernel
theorem dX5_wall_1 : decode cX5_wall 1 = .ok (.iconst 0, 1) := by decide +kernel
theorem dX5_wall_2 : decode cX5_wall 2 = .ok (.iconst 3, 1) := by decide +kernel
theorem dX5_wall_3 : decode cX5_wall 3 = .ok (.invokestatic 55, 3) := by decide +kernel
theorem dX5_wall_6 : decode cX5_wall 6 = .ok (.ifCond .eq 15, 3) := by decide +kernel
theorem dX5_wall_9 : decode cX5_wall 9 = .ok (.aload_n 0, 1) := by decide +kernel
theorem dX5_wall_10 : decode cX5_wall 10 = .ok (.getfield 10, 3) := by decide +kernel
theorem dX5_wall_13 : decode cX5_wall 13 = .ok (.getfield 82, 3) := by decide +kernel
theorem dX5_wall_16 : decode cX5_wall 16 = .ok (.iload_n 1, 1) := by decide +kernel
theorem dX5_wall_17 : decode cX5_wall 17 = .ok (.iaload, 1) := by decide +kernel
theorem dX5_wall_18 : decode cX5_wall 18 = .ok (.goto 4, 3) := by decide +kernel
theorem dX5_wall_21 : decode cX5_wall 21 = .ok (.iconst (-1), 1) := by decide +kernel
theorem dX5_wall_22 : decode cX5_wall 22 = .ok (.ireturn, 1) := by decide +kernel
set_option maxRecDepth 20000 in
theorem ggX5_seat_X3_hasSeat : GoodIn wsX5_seat wsX3_hasSeat := goodIn_r _ [8, 9, 22, 23, 24, 25, 26, 27, 28, 29, 30, 31, 32, 33] (by decide +kernel) (by decide +kernel)
set_option maxRecDepth 20000 in
theorem gX5_seat_X3_hasSeat : GoodIn wsX5_seat (wsV RX5 86 RX3 yX3_hasSeat wsX3_hasSeat) := goodIn_app (goodIn_of _ (by decide +kernel)) ggX5_seat_X3_hasSeat
set_option maxRecDepth 20000 in
theorem ggX5_seat_X5_isWithin : GoodIn wsX5_seat wsX5_isWithin := goodIn_r _ [13] (by decide +kernel) (by decide +kernel)
set_option maxRecDepth 20000 in
theorem gX5_seat_X5_isWithin : GoodIn wsX5_seat (va_wsS RX5 55 yX5_isWithin wsX5_isWithin) := goodIn_app (goodIn_of _ (by decide +kernel)) ggX5_seat_X5_isWithin
theorem dX5_seat_0 : decode cX5_seat 0 = .ok (.aload_n 0, 1) := by decide +kernel
theorem dX5_seat_1 : decode cX5_seat 1 = .ok (.getfield 10, 3) := by decide +kernel
theorem dX5_seat_4 : decode cX5_seat 4 = .ok (.iload_n 1, 1) := by decide +kernel
theorem dX5_seat_5 : decode cX5_seat 5 = .ok (.invokevirtual 86, 3) := by decide +kernel
theorem dX5_seat_8 : decode cX5_seat 8 = .ok (.ifCond .eq 12, 3) := by decide +kernel
theorem dX5_seat_11 : decode cX5_seat 11 = .ok (.iload_n 2, 1) := by decide +kernel
theorem dX5_seat_12 : decode cX5_seat 12 = .ok (.iconst 0, 1) := by decide +kernel
theorem dX5_seat_13 : decode cX5_seat 13 = .ok (.iconst 1, 1) := by decide +kernel
theorem dX5_seat_14 : decode cX5_seat 14 = .ok (.invokestatic 55, 3) := by decide +kernel
theorem dX5_seat_17 : decode cX5_seat 17 = .ok (.ifCond .ne 5, 3) := by decide +kernel
theorem dX5_seat_20 : decode cX5_seat 20 = .ok (.iconst (-1), 1) := by decide +kernel
theorem dX5_seat_21 : decode cX5_seat 21 = .ok (.ireturn, 1) := by decide +kernel
theorem dX5_seat_22 : decode cX5_seat 22 = .ok (.iload_n 2, 1) := by decide +kernel
theorem dX5_seat_23 : decode cX5_seat 23 = .ok (.ifCond .ne 15, 3) := by decide +kernel
theorem dX5_seat_26 : decode cX5_seat 26 = .ok (.aload_n 0, 1) := by decide +kernel
theorem dX5_seat_27 : decode cX5_seat 27 = .ok (.getfield 10, 3) := by decide +kernel
theorem dX5_seat_30 : decode cX5_seat 30 = .ok (.getfield 89, 3) := by decide +kernel
theorem dX5_seat_33 : decode cX5_seat 33 = .ok (.iload_n 1, 1) := by decide +kernel
theorem dX5_seat_34 : decode cX5_seat 34 = .ok (.iaload, 1) := by decide +kernel
theorem dX5_seat_35 : decode cX5_seat 35 = .ok (.goto 12, 3) := by decide +kernel
theorem dX5_seat_38 : decode cX5_seat 38 = .ok (.aload_n 0, 1) := by decide +kernel
theorem dX5_seat_39 : decode cX5_seat 39 = .ok (.getfield 10, 3) := by decide +kernel
theorem dX5_seat_42 : decode cX5_seat 42 = .ok (.getfield 92, 3) := by decide +kernel
theorem dX5_seat_45 : decode cX5_seat 45 = .ok (.iload_n 1, 1) := by decide +kernel
theorem dX5_seat_46 : decode cX5_seat 46 = .ok (.iaload, 1) := by decide +kernel
theorem dX5_seat_47 : decode cX5_seat 47 = .ok (.ireturn, 1) := by decide +kernel
set_option maxRecDepth 20000 in
theorem ggX5_curtain_X3_hasCurtain : GoodIn wsX5_curtain wsX3_hasCurtain := goodIn_r _ [9, 10, 19, 20, 21, 22, 23, 24, 25, 26, 27, 28, 29, 30] (by decide +kernel) (by decide +kernel)
set_option maxRecDepth 20000 in
theorem gX5_curtain_X3_hasCurtain : GoodIn wsX5_curtain (wsV RX5 95 RX3 yX3_hasCurtain wsX3_hasCurtain) := goodIn_app (goodIn_of _ (by decide +kernel)) ggX5_curtain_X3_hasCurtain
theorem dX5_curtain_0 : decode cX5_curtain 0 = .ok (.aload_n 0, 1) := by decide +kernel
theorem dX5_curtain_1 : decode cX5_curtain 1 = .ok (.getfield 10, 3) := by decide +kernel
theorem dX5_curtain_4 : decode cX5_curtain 4 = .ok (.iload_n 1, 1) := by decide +kernel
theorem dX5_curtain_5 : decode cX5_curtain 5 = .ok (.invokevirtual 95, 3) := by decide +kernel
theorem dX5_curtain_8 : decode cX5_curtain 8 = .ok (.ifCond .ne 5, 3) := by decide +kernel
theorem dX5_curtain_11 : decode cX5_curtain 11 = .ok (.iconst (-1), 1) := by decide +kernel
theorem dX5_curtain_12 : decode cX5_curtain 12 = .ok (.ireturn, 1) := by decide +kernel
theorem dX5_curtain_13 : decode cX5_curtain 13 = .ok (.iload_n 2, 1) := by decide +kernel
theorem dX5_curtain_14 : decode cX5_curtain 14 = .ok (.tableswitch 56 0 2 #[26, 36, 46], 26) := by decide +kernel
theorem dX5_curtain_40 : decode cX5_curtain 40 = .ok (.aload_n 0, 1) := by decide +kernel
theorem dX5_curtain_41 : decode cX5_curtain 41 = .ok (.getfield 10, 3) := by decide +kernel
theorem dX5_curtain_44 : decode cX5_curtain 44 = .ok (.getfield 98, 3) := by decide +kernel
theorem dX5_curtain_47 : decode cX5_curtain 47 = .ok (.iload_n 1, 1) := by decide +kernel
theorem dX5_curtain_48 : decode cX5_curtain 48 = .ok (.iaload, 1) := by decide +kernel
theorem dX5_curtain_49 : decode cX5_curtain 49 = .ok (.ireturn, 1) := by decide +kernel
theorem dX5_curtain_50 : decode cX5_curtain 50 = .ok (.aload_n 0, 1) := by decide +kernel
theorem dX5_curtain_51 : decode cX5_curtain 51 = .ok (.getfield 10, 3) := by decide +kernel
theorem dX5_curtain_54 : decode cX5_curtain 54 = .ok (.getfield 101, 3) := by decide +kernel
theorem dX5_curtain_57 : decode cX5_curtain 57 = .ok (.iload_n 1, 1) := by decide +kernel
theorem dX5_curtain_58 : decode cX5_curtain 58 = .ok (.iaload, 1) := by decide +kernel
theorem dX5_curtain_59 : decode cX5_curtain 59 = .ok (.ireturn, 1) := by decide +kernel
theorem dX5_curtain_60 : decode cX5_curtain 60 = .ok (.aload_n 0, 1) := by decide +kernel
theorem dX5_curtain_61 : decode cX5_curtain 61 = .ok (.getfield 10, 3) := by decide +kernel
theorem dX5_curtain_64 : decode cX5_curtain 64 = .ok (.getfield 104, 3) := by decide +kernel
theorem dX5_curtain_67 : decode cX5_curtain 67 = .ok (.iload_n 1, 1) := by decide +kernel
theorem dX5_curtain_68 : decode cX5_curtain 68 = .ok (.iaload, 1) := by decide +kernel
theorem dX5_curtain_69 : decode cX5_curtain 69 = .ok (.ireturn, 1) := by decide +kernel
theorem dX5_curtain_70 : decode cX5_curtain 70 = .ok (.iconst (-1), 1) := by decide +kernel
theorem dX5_curtain_71 : decode cX5_curtain 71 = .ok (.ireturn, 1) := by decide +kernel
set_option maxRecDepth 20000 in
theorem ggX5_pads_X5_isWithin : GoodIn wsX5_pads wsX5_isWithin := goodIn_r _ [7] (by decide +kernel) (by decide +kernel)
set_option maxRecDepth 20000 in
theorem gX5_pads_X5_isWithin : GoodIn wsX5_pads (va_wsS RX5 55 yX5_isWithin wsX5_isWithin) := goodIn_app (goodIn_of _ (by decide +kernel)) ggX5_pads_X5_isWithin
set_option maxRecDepth 20000 in
theorem ggX5_pads_X2_add : GoodIn wsX5_pads wsX2_add := goodIn_r _ [12, 13, 14, 15, 16, 17, 18, 19, 20, 11, 21, 22, 23, 24, 25, 46, 47, 48, 49, 50] (by decide +kernel) (by decide +kernel)
set_option maxRecDepth 20000 in
theorem gX5_pads_X2_add : GoodIn wsX5_pads (wsV RX5 107 RX2 yX2_add wsX2_add) := goodIn_app (goodIn_of _ (by decide +kernel)) ggX5_pads_X2_add
theorem dX5_pads_0 : decode cX5_pads 0 = .ok (.iload_n 1, 1) := by decide +kernel
theorem dX5_pads_1 : decode cX5_pads 1 = .ok (.iconst 0, 1) := by decide +kernel
theorem dX5_pads_2 : decode cX5_pads 2 = .ok (.iconst 3, 1) := by decide +kernel
theorem dX5_pads_3 : decode cX5_pads 3 = .ok (.invokestatic 55, 3) := by decide +kernel
theorem dX5_pads_6 : decode cX5_pads 6 = .ok (.ifCond .eq 13, 3) := by decide +kernel
theorem dX5_pads_9 : decode cX5_pads 9 = .ok (.iload_n 2, 1) := by decide +kernel
theorem dX5_pads_10 : decode cX5_pads 10 = .ok (.iconst 0, 1) := by decide +kernel
theorem dX5_pads_11 : decode cX5_pads 11 = .ok (.bipush 10, 2) := by decide +kernel
theorem dX5_pads_13 : decode cX5_pads 13 = .ok (.invokestatic 55, 3) := by decide +kernel
theorem dX5_pads_16 : decode cX5_pads 16 = .ok (.ifCond .ne 5, 3) := by decide +kernel
theorem dX5_pads_19 : decode cX5_pads 19 = .ok (.iconst (-1), 1) := by decide +kernel
theorem dX5_pads_20 : decode cX5_pads 20 = .ok (.ireturn, 1) := by decide +kernel
theorem dX5_pads_21 : decode cX5_pads 21 = .ok (.aload_n 0, 1) := by decide +kernel
theorem dX5_pads_22 : decode cX5_pads 22 = .ok (.getfield 10, 3) := by decide +kernel
theorem dX5_pads_25 : decode cX5_pads 25 = .ok (.getfield 82, 3) := by decide +kernel
theorem dX5_pads_28 : decode cX5_pads 28 = .ok (.iload_n 1, 1) := by decide +kernel
theorem dX5_pads_29 : decode cX5_pads 29 = .ok (.iaload, 1) := by decide +kernel
theorem dX5_pads_30 : decode cX5_pads 30 = .ok (.istore_n 3, 1) := by decide +kernel
theorem dX5_pads_31 : decode cX5_pads 31 = .ok (.iload_n 3, 1) := by decide +kernel
theorem dX5_pads_32 : decode cX5_pads 32 = .ok (.iload_n 2, 1) := by decide +kernel
theorem dX5_pads_33 : decode cX5_pads 33 = .ok (.if_icmp .ne 6, 3) := by decide +kernel
theorem dX5_pads_36 : decode cX5_pads 36 = .ok (.bipush (-2), 2) := by decide +kernel
theorem dX5_pads_38 : decode cX5_pads 38 = .ok (.ireturn, 1) := by decide +kernel
theorem dX5_pads_39 : decode cX5_pads 39 = .ok (.aload_n 0, 1) := by decide +kernel
theorem dX5_pads_40 : decode cX5_pads 40 = .ok (.getfield 37, 3) := by decide +kernel
theorem dX5_pads_43 : decode cX5_pads 43 = .ok (.iconst 0, 1) := by decide +kernel
theorem dX5_pads_44 : decode cX5_pads 44 = .ok (.iload_n 1, 1) := by decide +kernel
theorem dX5_pads_45 : decode cX5_pads 45 = .ok (.iload_n 3, 1) := by decide +kernel
theorem dX5_pads_46 : decode cX5_pads 46 = .ok (.iconst 0, 1) := by decide +kernel
theorem dX5_pads_47 : decode cX5_pads 47 = .ok (.invokevirtual 107, 3) := by decide +kernel
theorem dX5_pads_50 : decode cX5_pads 50 = .ok (.aload_n 0, 1) := by decide +kernel
theorem dX5_pads_51 : decode cX5_pads 51 = .ok (.getfield 10, 3) := by decide +kernel
theorem dX5_pads_54 : decode cX5_pads 54 = .ok (.getfield 82, 3) := by decide +kernel
theorem dX5_pads_57 : decode cX5_pads 57 = .ok (.iload_n 1, 1) := by decide +kernel
theorem dX5_pads_58 : decode cX5_pads 58 = .ok (.iload_n 2, 1) := by decide +kernel
theorem dX5_pads_59 : decode cX5_pads 59 = .ok (.iastore, 1) := by decide +kernel
theorem dX5_pads_60 : decode cX5_pads 60 = .ok (.iload_n 3, 1) := by decide +kernel
theorem dX5_pads_61 : decode cX5_pads 61 = .ok (.ireturn, 1) := by decide +kernel
set_option maxRecDepth 20000 in
theorem ggX5_draws_X3_hasCurtain : GoodIn wsX5_draws wsX3_hasCurtain := goodIn_r _ [10, 11, 42, 43, 44, 45, 46, 47, 48, 49, 50, 51, 52, 53] (by decide +kernel) (by decide +kernel)
set_option maxRecDepth 20000 in
theorem gX5_draws_X3_hasCurtain : GoodIn wsX5_draws (wsV RX5 95 RX3 yX3_hasCurtain wsX3_hasCurtain) := goodIn_app (goodIn_of _ (by decide +kernel)) ggX5_draws_X3_hasCurtain
set_option maxRecDepth 20000 in
theorem ggX5_draws_X5_isWithin : GoodIn wsX5_draws wsX5_isWithin := goodIn_r _ [15] (by decide +kernel) (by decide +kernel)
set_option maxRecDepth 20000 in
theorem gX5_draws_X5_isWithin : GoodIn wsX5_draws (va_wsS RX5 55 yX5_isWithin wsX5_isWithin) := goodIn_app (goodIn_of _ (by decide +kernel)) ggX5_draws_X5_isWithin
set_option maxRecDepth 20000 in
theorem ggX5_draws_X2_add : GoodIn wsX5_draws wsX2_add := goodIn_r _ [20, 21, 22, 23, 24, 25, 26, 27, 28, 19, 29, 30, 31, 32, 33, 54, 55, 56, 57, 58] (by decide +kernel) (by decide +kernel)
set_option maxRecDepth 20000 in
theorem gX5_draws_X2_add : GoodIn wsX5_draws (wsV RX5 107 RX2 yX2_add wsX2_add) := goodIn_app (goodIn_of _ (by decide +kernel)) ggX5_draws_X2_add
theorem dX5_draws_0 : decode cX5_draws 0 = .ok (.aload_n 0, 1) := by decide +kernel
theorem dX5_draws_1 : decode cX5_draws 1 = .ok (.getfield 10, 3) := by decide +kernel
theorem dX5_draws_4 : decode cX5_draws 4 = .ok (.iload_n 1, 1) := by decide +kernel
theorem dX5_draws_5 : decode cX5_draws 5 = .ok (.invokevirtual 95, 3) := by decide +kernel
theorem dX5_draws_8 : decode cX5_draws 8 = .ok (.ifCond .eq 33, 3) := by decide +kernel
theorem dX5_draws_11 : decode cX5_draws 11 = .ok (.iload_n 2, 1) := by decide +kernel
theorem dX5_draws_12 : decode cX5_draws 12 = .ok (.iconst 0, 1) := by decide +kernel
theorem dX5_draws_13 : decode cX5_draws 13 = .ok (.aload_n 0, 1) := by decide +kernel
theorem dX5_draws_14 : decode cX5_draws 14 = .ok (.getfield 10, 3) := by decide +kernel
theorem dX5_draws_17 : decode cX5_draws 17 = .ok (.getfield 111, 3) := by decide +kernel
theorem dX5_draws_20 : decode cX5_draws 20 = .ok (.invokestatic 55, 3) := by decide +kernel
theorem dX5_draws_23 : decode cX5_draws 23 = .ok (.ifCond .eq 18, 3) := by decide +kernel
theorem dX5_draws_26 : decode cX5_draws 26 = .ok (.iload_n 3, 1) := by decide +kernel
theorem dX5_draws_27 : decode cX5_draws 27 = .ok (.iload_n 2, 1) := by decide +kernel
theorem dX5_draws_28 : decode cX5_draws 28 = .ok (.aload_n 0, 1) := by decide +kernel
theorem dX5_draws_29 : decode cX5_draws 29 = .ok (.getfield 10, 3) := by decide +kernel
theorem dX5_draws_32 : decode cX5_draws 32 = .ok (.getfield 111, 3) := by decide +kernel
theorem dX5_draws_35 : decode cX5_draws 35 = .ok (.invokestatic 55, 3) := by decide +kernel
theorem dX5_draws_38 : decode cX5_draws 38 = .ok (.ifCond .ne 5, 3) := by decide +kernel
theorem dX5_draws_41 : decode cX5_draws 41 = .ok (.iconst (-1), 1) := by decide +kernel
theorem dX5_draws_42 : decode cX5_draws 42 = .ok (.ireturn, 1) := by decide +kernel
theorem dX5_draws_43 : decode cX5_draws 43 = .ok (.aload_n 0, 1) := by decide +kernel
theorem dX5_draws_44 : decode cX5_draws 44 = .ok (.getfield 10, 3) := by decide +kernel
theorem dX5_draws_47 : decode cX5_draws 47 = .ok (.getfield 101, 3) := by decide +kernel
theorem dX5_draws_50 : decode cX5_draws 50 = .ok (.iload_n 1, 1) := by decide +kernel
theorem dX5_draws_51 : decode cX5_draws 51 = .ok (.iaload, 1) := by decide +kernel
theorem dX5_draws_52 : decode cX5_draws 52 = .ok (.istore 4, 2) := by decide +kernel
theorem dX5_draws_54 : decode cX5_draws 54 = .ok (.aload_n 0, 1) := by decide +kernel
theorem dX5_draws_55 : decode cX5_draws 55 = .ok (.getfield 10, 3) := by decide +kernel
theorem dX5_draws_58 : decode cX5_draws 58 = .ok (.getfield 104, 3) := by decide +kernel
theorem dX5_draws_61 : decode cX5_draws 61 = .ok (.iload_n 1, 1) := by decide +kernel
theorem dX5_draws_62 : decode cX5_draws 62 = .ok (.iaload, 1) := by decide +kernel
theorem dX5_draws_63 : decode cX5_draws 63 = .ok (.istore 5, 2) := by decide +kernel
theorem dX5_draws_65 : decode cX5_draws 65 = .ok (.iload 4, 2) := by decide +kernel
theorem dX5_draws_67 : decode cX5_draws 67 = .ok (.iload_n 2, 1) := by decide +kernel
theorem dX5_draws_68 : decode cX5_draws 68 = .ok (.if_icmp .ne 12, 3) := by decide +kernel
theorem dX5_draws_71 : decode cX5_draws 71 = .ok (.iload 5, 2) := by decide +kernel
theorem dX5_draws_73 : decode cX5_draws 73 = .ok (.iload_n 3, 1) := by decide +kernel
theorem dX5_draws_74 : decode cX5_draws 74 = .ok (.if_icmp .ne 6, 3) := by decide +kernel
theorem dX5_draws_77 : decode cX5_draws 77 = .ok (.bipush (-2), 2) := by decide +kernel
theorem dX5_draws_79 : decode cX5_draws 79 = .ok (.ireturn, 1) := by decide +kernel
theorem dX5_draws_80 : decode cX5_draws 80 = .ok (.aload_n 0, 1) := by decide +kernel
theorem dX5_draws_81 : decode cX5_draws 81 = .ok (.getfield 37, 3) := by decide +kernel
theorem dX5_draws_84 : decode cX5_draws 84 = .ok (.iconst 1, 1) := by decide +kernel
theorem dX5_draws_85 : decode cX5_draws 85 = .ok (.iload_n 1, 1) := by decide +kernel
theorem dX5_draws_86 : decode cX5_draws 86 = .ok (.iload 4, 2) := by decide +kernel
theorem dX5_draws_88 : decode cX5_draws 88 = .ok (.iload 5, 2) := by decide +kernel
theorem dX5_draws_90 : decode cX5_draws 90 = .ok (.invokevirtual 107, 3) := by decide +kernel
theorem dX5_draws_93 : decode cX5_draws 93 = .ok (.aload_n 0, 1) := by decide +kernel
theorem dX5_draws_94 : decode cX5_draws 94 = .ok (.getfield 10, 3) := by decide +kernel
theorem dX5_draws_97 : decode cX5_draws 97 = .ok (.getfield 101, 3) := by decide +kernel
theorem dX5_draws_100 : decode cX5_draws 100 = .ok (.iload_n 1, 1) := by decide +kernel
theorem dX5_draws_101 : decode cX5_draws 101 = .ok (.iload_n 2, 1) := by decide +kernel
theorem dX5_draws_102 : decode cX5_draws 102 = .ok (.iastore, 1) := by decide +kernel
theorem dX5_draws_103 : decode cX5_draws 103 = .ok (.aload_n 0, 1) := by decide +kernel
theorem dX5_draws_104 : decode cX5_draws 104 = .ok (.getfield 10, 3) := by decide +kernel
theorem dX5_draws_107 : decode cX5_draws 107 = .ok (.getfield 104, 3) := by decide +kernel
theorem dX5_draws_110 : decode cX5_draws 110 = .ok (.iload_n 1, 1) := by decide +kernel
theorem dX5_draws_111 : decode cX5_draws 111 = .ok (.iload_n 3, 1) := by decide +kernel
theorem dX5_draws_112 : decode cX5_draws 112 = .ok (.iastore, 1) := by decide +kernel
theorem dX5_draws_113 : decode cX5_draws 113 = .ok (.bipush 100, 2) := by decide +kernel
theorem dX5_draws_115 : decode cX5_draws 115 = .ok (.iload 4, 2) := by decide +kernel
theorem dX5_draws_117 : decode cX5_draws 117 = .ok (.imul, 1) := by decide +kernel
theorem dX5_draws_118 : decode cX5_draws 118 = .ok (.iload 5, 2) := by decide +kernel
theorem dX5_draws_120 : decode cX5_draws 120 = .ok (.iadd, 1) := by decide +kernel
theorem dX5_draws_121 : decode cX5_draws 121 = .ok (.ireturn, 1) := by decide +kernel
set_option maxRecDepth 20000 in
theorem ggX5_moves_X5_isWithin : GoodIn wsX5_moves wsX5_isWithin := goodIn_r _ [10] (by decide +kernel) (by decide +kernel)
set_option maxRecDepth 20000 in
theorem gX5_moves_X5_isWithin : GoodIn wsX5_moves (va_wsS RX5 55 yX5_isWithin wsX5_isWithin) := goodIn_app (goodIn_of _ (by decide +kernel)) ggX5_moves_X5_isWithin
set_option maxRecDepth 20000 in
theorem ggX5_moves_X3_sourceCode : GoodIn wsX5_moves wsX3_sourceCode := goodIn_r _ [15, 16, 17, 44, 45, 46, 47, 48, 49, 50, 51, 52, 53, 54, 55] (by decide +kernel) (by decide +kernel)
set_option maxRecDepth 20000 in
theorem gX5_moves_X3_sourceCode : GoodIn wsX5_moves (wsV RX5 123 RX3 yX3_sourceCode wsX3_sourceCode) := goodIn_app (goodIn_of _ (by decide +kernel)) ggX5_moves_X3_sourceCode
set_option maxRecDepth 20000 in
theorem ggX5_moves_X2_add : GoodIn wsX5_moves wsX2_add := goodIn_r _ [22, 23, 24, 25, 26, 27, 28, 29, 30, 21, 31, 32, 33, 34, 35, 56, 57, 58, 59, 60] (by decide +kernel) (by decide +kernel)
set_option maxRecDepth 20000 in
theorem gX5_moves_X2_add : GoodIn wsX5_moves (wsV RX5 107 RX2 yX2_add wsX2_add) := goodIn_app (goodIn_of _ (by decide +kernel)) ggX5_moves_X2_add
theorem dX5_moves_0 : decode cX5_moves 0 = .ok (.iload_n 1, 1) := by decide +kernel
theorem dX5_moves_1 : decode cX5_moves 1 = .ok (.iconst 0, 1) := by decide +kernel
theorem dX5_moves_2 : decode cX5_moves 2 = .ok (.aload_n 0, 1) := by decide +kernel
theorem dX5_moves_3 : decode cX5_moves 3 = .ok (.getfield 10, 3) := by decide +kernel
theorem dX5_moves_6 : decode cX5_moves 6 = .ok (.getfield 114, 3) := by decide +kernel
theorem dX5_moves_9 : decode cX5_moves 9 = .ok (.invokestatic 55, 3) := by decide +kernel
theorem dX5_moves_12 : decode cX5_moves 12 = .ok (.ifCond .eq 18, 3) := by decide +kernel
theorem dX5_moves_15 : decode cX5_moves 15 = .ok (.iload_n 2, 1) := by decide +kernel
theorem dX5_moves_16 : decode cX5_moves 16 = .ok (.iconst 0, 1) := by decide +kernel
theorem dX5_moves_17 : decode cX5_moves 17 = .ok (.aload_n 0, 1) := by decide +kernel
theorem dX5_moves_18 : decode cX5_moves 18 = .ok (.getfield 10, 3) := by decide +kernel
theorem dX5_moves_21 : decode cX5_moves 21 = .ok (.getfield 111, 3) := by decide +kernel
theorem dX5_moves_24 : decode cX5_moves 24 = .ok (.invokestatic 55, 3) := by decide +kernel
theorem dX5_moves_27 : decode cX5_moves 27 = .ok (.ifCond .ne 5, 3) := by decide +kernel
theorem dX5_moves_30 : decode cX5_moves 30 = .ok (.iconst (-1), 1) := by decide +kernel
theorem dX5_moves_31 : decode cX5_moves 31 = .ok (.ireturn, 1) := by decide +kernel
theorem dX5_moves_32 : decode cX5_moves 32 = .ok (.aload_n 0, 1) := by decide +kernel
theorem dX5_moves_33 : decode cX5_moves 33 = .ok (.getfield 10, 3) := by decide +kernel
theorem dX5_moves_36 : decode cX5_moves 36 = .ok (.getfield 117, 3) := by decide +kernel
theorem dX5_moves_39 : decode cX5_moves 39 = .ok (.iload_n 1, 1) := by decide +kernel
theorem dX5_moves_40 : decode cX5_moves 40 = .ok (.if_icmp .ne 17, 3) := by decide +kernel
theorem dX5_moves_43 : decode cX5_moves 43 = .ok (.aload_n 0, 1) := by decide +kernel
theorem dX5_moves_44 : decode cX5_moves 44 = .ok (.getfield 10, 3) := by decide +kernel
theorem dX5_moves_47 : decode cX5_moves 47 = .ok (.getfield 120, 3) := by decide +kernel
theorem dX5_moves_50 : decode cX5_moves 50 = .ok (.iload_n 2, 1) := by decide +kernel
theorem dX5_moves_51 : decode cX5_moves 51 = .ok (.if_icmp .ne 6, 3) := by decide +kernel
theorem dX5_moves_54 : decode cX5_moves 54 = .ok (.bipush (-2), 2) := by decide +kernel
theorem dX5_moves_56 : decode cX5_moves 56 = .ok (.ireturn, 1) := by decide +kernel
theorem dX5_moves_57 : decode cX5_moves 57 = .ok (.aload_n 0, 1) := by decide +kernel
theorem dX5_moves_58 : decode cX5_moves 58 = .ok (.getfield 10, 3) := by decide +kernel
theorem dX5_moves_61 : decode cX5_moves 61 = .ok (.invokevirtual 123, 3) := by decide +kernel
theorem dX5_moves_64 : decode cX5_moves 64 = .ok (.istore_n 3, 1) := by decide +kernel
theorem dX5_moves_65 : decode cX5_moves 65 = .ok (.aload_n 0, 1) := by decide +kernel
theorem dX5_moves_66 : decode cX5_moves 66 = .ok (.getfield 37, 3) := by decide +kernel
theorem dX5_moves_69 : decode cX5_moves 69 = .ok (.iconst 2, 1) := by decide +kernel
theorem dX5_moves_70 : decode cX5_moves 70 = .ok (.iconst 0, 1) := by decide +kernel
theorem dX5_moves_71 : decode cX5_moves 71 = .ok (.aload_n 0, 1) := by decide +kernel
theorem dX5_moves_72 : decode cX5_moves 72 = .ok (.getfield 10, 3) := by decide +kernel
theorem dX5_moves_75 : decode cX5_moves 75 = .ok (.getfield 117, 3) := by decide +kernel
theorem dX5_moves_78 : decode cX5_moves 78 = .ok (.aload_n 0, 1) := by decide +kernel
theorem dX5_moves_79 : decode cX5_moves 79 = .ok (.getfield 10, 3) := by decide +kernel
theorem dX5_moves_82 : decode cX5_moves 82 = .ok (.getfield 120, 3) := by decide +kernel
theorem dX5_moves_85 : decode cX5_moves 85 = .ok (.invokevirtual 107, 3) := by decide +kernel
theorem dX5_moves_88 : decode cX5_moves 88 = .ok (.aload_n 0, 1) := by decide +kernel
theorem dX5_moves_89 : decode cX5_moves 89 = .ok (.getfield 10, 3) := by decide +kernel
theorem dX5_moves_92 : decode cX5_moves 92 = .ok (.iload_n 1, 1) := by decide +kernel
theorem dX5_moves_93 : decode cX5_moves 93 = .ok (.putfield 117, 3) := by decide +kernel
theorem dX5_moves_96 : decode cX5_moves 96 = .ok (.aload_n 0, 1) := by decide +kernel
theorem dX5_moves_97 : decode cX5_moves 97 = .ok (.getfield 10, 3) := by decide +kernel
theorem dX5_moves_100 : decode cX5_moves 100 = .ok (.iload_n 2, 1) := by decide +kernel
theorem dX5_moves_101 : decode cX5_moves 101 = .ok (.putfield 120, 3) := by decide +kernel
theorem dX5_moves_104 : decode cX5_moves 104 = .ok (.iload_n 3, 1) := by decide +kernel
theorem dX5_moves_105 : decode cX5_moves 105 = .ok (.ireturn, 1) := by decide +kernel
set_option maxRecDepth 20000 in
theorem ggX5_undo_X2_takeBackIn : GoodIn wsX5_undo wsX2_takeBackIn := goodIn_r _ [8, 9, 10, 11, 12, 13, 14, 15, 16, 17, 18, 27, 28, 29, 30, 31, 32, 33, 34, 35, 36, 37, 38, 39, 40, 41, 42, 43] (by decide +kernel) (by decide +kernel)
set_option maxRecDepth 20000 in
theorem gX5_undo_X2_takeBackIn : GoodIn wsX5_undo (wsV RX5 127 RX2 yX2_takeBackIn wsX2_takeBackIn) := goodIn_app (goodIn_of _ (by decide +kernel)) ggX5_undo_X2_takeBackIn
