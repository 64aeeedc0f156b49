theorem dX6_init_0 : decode cX6_init 0 = .ok (.aload_n 0, 1) := by decide +kernel
theorem dX6_init_1 : decode cX6_init 1 = .ok (.invokespecial 1, 3) := by decide +kernel
theorem dX6_init_4 : decode cX6_init 4 = .ok (.aload_n 0, 1) := by decide +kernel
theorem dX6_init_5 : decode cX6_init 5 = .ok (.new 7, 3) := by decide +kernel
theorem dX6_init_8 : decode cX6_init 8 = .ok (.dup, 1) := by decide +kernel
theorem dX6_init_9 : decode cX6_init 9 = .ok (.invokespecial 9, 3) := by decide +kernel
theorem dX6_init_12 : decode cX6_init 12 = .ok (.putfield 10, 3) := by decide +kernel
theorem dX6_init_15 : decode cX6_init 15 = .ok (.aload_n 0, 1) := by decide +kernel
theorem dX6_init_16 : decode cX6_init 16 = .ok (.new 16, 3) := by decide +kernel
theorem dX6_init_19 : decode cX6_init 19 = .ok (.dup, 1) := by decide +kernel
theorem dX6_init_20 : decode cX6_init 20 = .ok (.invokespecial 18, 3) := by decide +kernel
theorem dX6_init_23 : decode cX6_init 23 = .ok (.putfield 19, 3) := by decide +kernel
theorem dX6_init_26 : decode cX6_init 26 = .ok (.aload_n 0, 1) := by decide +kernel
theorem dX6_init_27 : decode cX6_init 27 = .ok (.new 16, 3) := by decide +kernel
theorem dX6_init_30 : decode cX6_init 30 = .ok (.dup, 1) := by decide +kernel
theorem dX6_init_31 : decode cX6_init 31 = .ok (.invokespecial 18, 3) := by decide +kernel
theorem dX6_init_34 : decode cX6_init 34 = .ok (.putfield 23, 3) := by decide +kernel
theorem dX6_init_37 : decode cX6_init 37 = .ok (.aload_n 0, 1) := by decide +kernel
theorem dX6_init_38 : decode cX6_init 38 = .ok (.new 26, 3) := by decide +kernel
theorem dX6_init_41 : decode cX6_init 41 = .ok (.dup, 1) := by decide +kernel
theorem dX6_init_42 : decode cX6_init 42 = .ok (.invokespecial 28, 3) := by decide +kernel
theorem dX6_init_45 : decode cX6_init 45 = .ok (.putfield 29, 3) := by decide +kernel
theorem dX6_init_48 : decode cX6_init 48 = .ok (.aload_n 0, 1) := by decide +kernel
theorem dX6_init_49 : decode cX6_init 49 = .ok (.new 33, 3) := by decide +kernel
theorem dX6_init_52 : decode cX6_init 52 = .ok (.dup, 1) := by decide +kernel
theorem dX6_init_53 : decode cX6_init 53 = .ok (.invokespecial 35, 3) := by decide +kernel
theorem dX6_init_56 : decode cX6_init 56 = .ok (.putfield 36, 3) := by decide +kernel
theorem dX6_init_59 : decode cX6_init 59 = .ok (.aload_n 0, 1) := by decide +kernel
theorem dX6_init_60 : decode cX6_init 60 = .ok (.new 40, 3) := by decide +kernel
theorem dX6_init_63 : decode cX6_init 63 = .ok (.dup, 1) := by decide +kernel
theorem dX6_init_64 : decode cX6_init 64 = .ok (.invokespecial 42, 3) := by decide +kernel
theorem dX6_init_67 : decode cX6_init 67 = .ok (.putfield 43, 3) := by decide +kernel
theorem dX6_init_70 : decode cX6_init 70 = .ok (.aload_n 0, 1) := by decide +kernel
theorem dX6_init_71 : decode cX6_init 71 = .ok (.new 47, 3) := by decide +kernel
theorem dX6_init_74 : decode cX6_init 74 = .ok (.dup, 1) := by decide +kernel
theorem dX6_init_75 : decode cX6_init 75 = .ok (.invokespecial 49, 3) := by decide +kernel
theorem dX6_init_78 : decode cX6_init 78 = .ok (.putfield 50, 3) := by decide +kernel
theorem dX6_init_81 : decode cX6_init 81 = .ok (.aload_n 0, 1) := by decide +kernel
theorem dX6_init_82 : decode cX6_init 82 = .ok (.iconst 2, 1) := by decide +kernel
theorem dX6_init_83 : decode cX6_init 83 = .ok (.anewarray 26, 3) := by decide +kernel
theorem dX6_init_86 : decode cX6_init 86 = .ok (.putfield 54, 3) := by decide +kernel
theorem dX6_init_89 : decode cX6_init 89 = .ok (.iconst 0, 1) := by decide +kernel
theorem dX6_init_90 : decode cX6_init 90 = .ok (.istore_n 1, 1) := by decide +kernel
theorem dX6_init_91 : decode cX6_init 91 = .ok (.iload_n 1, 1) := by decide +kernel
theorem dX6_init_92 : decode cX6_init 92 = .ok (.iconst 2, 1) := by decide +kernel
theorem dX6_init_93 : decode cX6_init 93 = .ok (.if_icmp .ge 22, 3) := by decide +kernel
theorem dX6_init_96 : decode cX6_init 96 = .ok (.aload_n 0, 1) := by decide +kernel
theorem dX6_init_97 : decode cX6_init 97 = .ok (.getfield 54, 3) := by decide +kernel
theorem dX6_init_100 : decode cX6_init 100 = .ok (.iload_n 1, 1) := by decide +kernel
theorem dX6_init_101 : decode cX6_init 101 = .ok (.new 26, 3) := by decide +kernel
theorem dX6_init_104 : decode cX6_init 104 = .ok (.dup, 1) := by decide +kernel
theorem dX6_init_105 : decode cX6_init 105 = .ok (.invokespecial 28, 3) := by decide +kernel
theorem dX6_init_108 : decode cX6_init 108 = .ok (.aastore, 1) := by decide +kernel
theorem dX6_init_109 : decode cX6_init 109 = .ok (.iinc 1 1, 3) := by decide +kernel
theorem dX6_init_112 : decode cX6_init 112 = .ok (.goto (-21), 3) := by decide +kernel
theorem dX6_init_115 : decode cX6_init 115 = .ok (.aload_n 0, 1) := by decide +kernel
theorem dX6_init_116 : decode cX6_init 116 = .ok (.iconst 0, 1) := by decide +kernel
theorem dX6_init_117 : decode cX6_init 117 = .ok (.putfield 58, 3) := by decide +kernel
theorem dX6_init_120 : decode cX6_init 120 = .ok (.aload_n 0, 1) := by decide +kernel
theorem dX6_init_121 : decode cX6_init 121 = .ok (.lconst 0, 1) := by decide +kernel
theorem dX6_init_122 : decode cX6_init 122 = .ok (.putfield 62, 3) := by decide +kernel
theorem dX6_init_125 : decode cX6_init 125 = .ok (.return_, 1) := by decide +kernel
set_option maxRecDepth 20000 in
theorem ggX6_write_X4_isFull : GoodIn wsX6_write wsX4_isFull := goodIn_r _ [6, 7, 28, 29] (by decide +kernel) (by decide +kernel)
set_option maxRecDepth 20000 in
theorem gX6_write_X4_isFull : GoodIn wsX6_write (wsV RX6 66 RX4 yX4_isFull wsX4_isFull) := goodIn_app (goodIn_of _ (by decide +kernel)) ggX6_write_X4_isFull
set_option maxRecDepth 20000 in
theorem ggX6_write_X4_append : GoodIn wsX6_write wsX4_append := goodIn_r _ [11, 12, 7, 13, 3, 4, 5, 6, 28, 29] (by decide +kernel) (by decide +kernel)
set_option maxRecDepth 20000 in
theorem gX6_write_X4_append : GoodIn wsX6_write (wsV RX6 70 RX4 yX4_append wsX4_append) := goodIn_app (goodIn_of _ (by decide +kernel)) ggX6_write_X4_append
set_option maxRecDepth 20000 in
theorem ggX6_write_X4_length : GoodIn wsX6_write wsX4_length := goodIn_r _ [17, 7, 28, 29] (by decide +kernel) (by decide +kernel)
set_option maxRecDepth 20000 in
theorem gX6_write_X4_length : GoodIn wsX6_write (wsV RX6 74 RX4 yX4_length wsX4_length) := goodIn_app (goodIn_of _ (by decide +kernel)) ggX6_write_X4_length
theorem dX6_write_0 : decode cX6_write 0 = .ok (.iload_n 1, 1) := by decide +kernel
theorem dX6_write_1 : decode cX6_write 1 = .ok (.ifCond .lt 10, 3) := by decide +kernel
theorem dX6_write_4 : decode cX6_write 4 = .ok (.iload_n 1, 1) := by decide +kernel
theorem dX6_write_5 : decode cX6_write 5 = .ok (.sipush 255, 3) := by decide +kernel
theorem dX6_write_8 : decode cX6_write 8 = .ok (.if_icmp .le 6, 3) := by decide +kernel
theorem dX6_write_11 : decode cX6_write 11 = .ok (.bipush (-2), 2) := by decide +kernel
theorem dX6_write_13 : decode cX6_write 13 = .ok (.ireturn, 1) := by decide +kernel
theorem dX6_write_14 : decode cX6_write 14 = .ok (.aload_n 0, 1) := by decide +kernel
theorem dX6_write_15 : decode cX6_write 15 = .ok (.getfield 10, 3) := by decide +kernel
theorem dX6_write_18 : decode cX6_write 18 = .ok (.invokevirtual 66, 3) := by decide +kernel
theorem dX6_write_21 : decode cX6_write 21 = .ok (.ifCond .eq 6, 3) := by decide +kernel
theorem dX6_write_24 : decode cX6_write 24 = .ok (.bipush (-4), 2) := by decide +kernel
theorem dX6_write_26 : decode cX6_write 26 = .ok (.ireturn, 1) := by decide +kernel
theorem dX6_write_27 : decode cX6_write 27 = .ok (.aload_n 0, 1) := by decide +kernel
theorem dX6_write_28 : decode cX6_write 28 = .ok (.getfield 10, 3) := by decide +kernel
theorem dX6_write_31 : decode cX6_write 31 = .ok (.iload_n 1, 1) := by decide +kernel
theorem dX6_write_32 : decode cX6_write 32 = .ok (.invokevirtual 70, 3) := by decide +kernel
theorem dX6_write_35 : decode cX6_write 35 = .ok (.aload_n 0, 1) := by decide +kernel
theorem dX6_write_36 : decode cX6_write 36 = .ok (.getfield 10, 3) := by decide +kernel
theorem dX6_write_39 : decode cX6_write 39 = .ok (.invokevirtual 74, 3) := by decide +kernel
theorem dX6_write_42 : decode cX6_write 42 = .ok (.ireturn, 1) := by decide +kernel
set_option maxRecDepth 20000 in
theorem ggX6_wipe_X4_length : GoodIn wsX6_wipe wsX4_length := goodIn_r _ [6, 7, 22, 23] (by decide +kernel) (by decide +kernel)
set_option maxRecDepth 20000 in
theorem gX6_wipe_X4_length : GoodIn wsX6_wipe (wsV RX6 74 RX4 yX4_length wsX4_length) := goodIn_app (goodIn_of _ (by decide +kernel)) ggX6_wipe_X4_length
set_option maxRecDepth 20000 in
theorem ggX6_wipe_X4_clear : GoodIn wsX6_wipe wsX4_clear := goodIn_r _ [11, 7, 22, 23] (by decide +kernel) (by decide +kernel)
set_option maxRecDepth 20000 in
theorem gX6_wipe_X4_clear : GoodIn wsX6_wipe (wsV RX6 78 RX4 yX4_clear wsX4_clear) := goodIn_app (goodIn_of _ (by decide +kernel)) ggX6_wipe_X4_clear
theorem dX6_wipe_0 : decode cX6_wipe 0 = .ok (.aload_n 0, 1) := by decide +kernel
theorem dX6_wipe_1 : decode cX6_wipe 1 = .ok (.getfield 10, 3) := by decide +kernel
theorem dX6_wipe_4 : decode cX6_wipe 4 = .ok (.invokevirtual 74, 3) := by decide +kernel
theorem dX6_wipe_7 : decode cX6_wipe 7 = .ok (.istore_n 1, 1) := by decide +kernel
theorem dX6_wipe_8 : decode cX6_wipe 8 = .ok (.aload_n 0, 1) := by decide +kernel
theorem dX6_wipe_9 : decode cX6_wipe 9 = .ok (.getfield 10, 3) := by decide +kernel
theorem dX6_wipe_12 : decode cX6_wipe 12 = .ok (.invokevirtual 78, 3) := by decide +kernel
theorem dX6_wipe_15 : decode cX6_wipe 15 = .ok (.iload_n 1, 1) := by decide +kernel
theorem dX6_wipe_16 : decode cX6_wipe 16 = .ok (.ireturn, 1) := by decide +kernel
set_option maxRecDepth 20000 in
theorem ggX6_fault_X5_readFrom : GoodIn wsX6_fault wsX5_readFrom := goodIn_r _ [7, 8, 9, 10, 11, 12, 13, 14, 15, 16, 17, 18, 19, 20, 21, 6, 22, 23, 24, 25, 26, 27, 28, 29, 30, 31, 32, 33, 34, 35, 36, 37, 38, 39, 40, 41, 42, 43, 44, 45, 46, 47, 48, 49, 50, 51, 52, 53, 54, 55, 56, 57, 58, 59, 60, 61, 62, 63, 64, 65, 66, 67, 68, 69, 70, 71, 72, 73, 74, 75, 76, 77, 78, 79, 80, 81, 82, 83, 84, 85, 86, 87, 88, 89, 90, 91, 92, 93, 94, 95, 96, 97, 98, 99, 100, 101, 102, 113, 114, 115, 116] (by decide +kernel) (by decide +kernel)
set_option maxRecDepth 20000 in
theorem gX6_fault_X5_readFrom : GoodIn wsX6_fault (wsV RX6 81 RX5 yX5_readFrom wsX5_readFrom) := goodIn_app (goodIn_of _ (by decide +kernel)) ggX6_fault_X5_readFrom
theorem dX6_fault_0 : decode cX6_fault 0 = .ok (.aload_n 0, 1) := by decide +kernel
theorem dX6_fault_1 : decode cX6_fault 1 = .ok (.getfield 23, 3) := by decide +kernel
theorem dX6_fault_4 : decode cX6_fault 4 = .ok (.aload_n 0, 1) := by decide +kernel
theorem dX6_fault_5 : decode cX6_fault 5 = .ok (.getfield 10, 3) := by decide +kernel
theorem dX6_fault_8 : decode cX6_fault 8 = .ok (.invokevirtual 81, 3) := by decide +kernel
theorem dX6_fault_11 : decode cX6_fault 11 = .ok (.ireturn, 1) := by decide +kernel
set_option maxRecDepth 20000 in
theorem ggX6_open_X5_readFrom : GoodIn wsX6_open wsX5_readFrom := goodIn_r _ [11, 12, 13, 14, 15, 16, 17, 18, 19, 20, 21, 22, 23, 24, 25, 10, 26, 27, 28, 29, 30, 31, 32, 33, 34, 35, 36, 37, 38, 39, 40, 41, 42, 43, 44, 45, 46, 47, 48, 49, 50, 51, 52, 53, 54, 55, 56, 57, 58, 59, 60, 61, 62, 63, 64, 65, 66, 67, 68, 69, 70, 71, 72, 73, 74, 75, 76, 77, 78, 79, 80, 81, 82, 83, 84, 85, 86, 87, 88, 89, 90, 91, 92, 93, 94, 95, 96, 97, 98, 99, 100, 101, 102, 103, 104, 105, 106, 140, 141, 142, 143] (by decide +kernel) (by decide +kernel)
set_option maxRecDepth 20000 in
theorem gX6_open_X5_readFrom : GoodIn wsX6_open (wsV RX6 81 RX5 yX5_readFrom wsX5_readFrom) := goodIn_app (goodIn_of _ (by decide +kernel)) ggX6_open_X5_readFrom
set_option maxRecDepth 20000 in
theorem ggX6_open_X5_countedContracts : GoodIn wsX6_open wsX5_countedContracts := goodIn_r _ [110, 27, 28, 29, 10, 30, 12, 111, 112, 113, 114, 103, 104, 105, 106, 140, 141] (by decide +kernel) (by decide +kernel)
set_option maxRecDepth 20000 in
theorem gX6_open_X5_countedContracts : GoodIn wsX6_open (wsV RX6 85 RX5 yX5_countedContracts wsX5_countedContracts) := goodIn_app (goodIn_of _ (by decide +kernel)) ggX6_open_X5_countedContracts
set_option maxRecDepth 20000 in
theorem ggX6_open_X3_begin : GoodIn wsX6_open wsX3_begin := goodIn_r _ [119, 120, 121, 122, 144, 145, 146] (by decide +kernel) (by decide +kernel)
set_option maxRecDepth 20000 in
theorem gX6_open_X3_begin : GoodIn wsX6_open (wsV RX6 88 RX3 yX3_begin wsX3_begin) := goodIn_app (goodIn_of _ (by decide +kernel)) ggX6_open_X3_begin
set_option maxRecDepth 20000 in
theorem ggX6_open_X0_clear : GoodIn wsX6_open wsX0_clear := goodIn_r _ [127, 128, 147, 148, 149] (by decide +kernel) (by decide +kernel)
set_option maxRecDepth 20000 in
theorem gX6_open_X0_clear : GoodIn wsX6_open (wsV RX6 91 RX0 yX0_clear wsX0_clear) := goodIn_app (goodIn_of _ (by decide +kernel)) ggX6_open_X0_clear
set_option maxRecDepth 20000 in
theorem ggX6_open_X5_sizeOf : GoodIn wsX6_open wsX5_sizeOf := goodIn_r _ [30, 12, 140, 141] (by decide +kernel) (by decide +kernel)
set_option maxRecDepth 20000 in
theorem gX6_open_X5_sizeOf : GoodIn wsX6_open (wsV RX6 92 RX5 yX5_sizeOf wsX5_sizeOf) := goodIn_app (goodIn_of _ (by decide +kernel)) ggX6_open_X5_sizeOf
theorem dX6_open_0 : decode cX6_open 0 = .ok (.aload_n 0, 1) := by decide +kernel
theorem dX6_open_1 : decode cX6_open 1 = .ok (.getfield 23, 3) := by decide +kernel
theorem dX6_open_4 : decode cX6_open 4 = .ok (.aload_n 0, 1) := by decide +kernel
theorem dX6_open_5 : decode cX6_open 5 = .ok (.getfield 10, 3) := by decide +kernel
theorem dX6_open_8 : decode cX6_open 8 = .ok (.invokevirtual 81, 3) := by decide +kernel
theorem dX6_open_11 : decode cX6_open 11 = .ok (.bipush (-9), 2) := by decide +kernel
theorem dX6_open_13 : decode cX6_open 13 = .ok (.if_icmp .eq 6, 3) := by decide +kernel
theorem dX6_open_16 : decode cX6_open 16 = .ok (.bipush (-3), 2) := by decide +kernel
theorem dX6_open_18 : decode cX6_open 18 = .ok (.ireturn, 1) := by decide +kernel
theorem dX6_open_19 : decode cX6_open 19 = .ok (.aload_n 0, 1) := by decide +kernel
theorem dX6_open_20 : decode cX6_open 20 = .ok (.getfield 23, 3) := by decide +kernel
theorem dX6_open_23 : decode cX6_open 23 = .ok (.astore_n 1, 1) := by decide +kernel
theorem dX6_open_24 : decode cX6_open 24 = .ok (.aload_n 0, 1) := by decide +kernel
theorem dX6_open_25 : decode cX6_open 25 = .ok (.aload_n 0, 1) := by decide +kernel
theorem dX6_open_26 : decode cX6_open 26 = .ok (.getfield 19, 3) := by decide +kernel
theorem dX6_open_29 : decode cX6_open 29 = .ok (.putfield 23, 3) := by decide +kernel
theorem dX6_open_32 : decode cX6_open 32 = .ok (.aload_n 0, 1) := by decide +kernel
theorem dX6_open_33 : decode cX6_open 33 = .ok (.aload_n 1, 1) := by decide +kernel
theorem dX6_open_34 : decode cX6_open 34 = .ok (.putfield 19, 3) := by decide +kernel
theorem dX6_open_37 : decode cX6_open 37 = .ok (.aload_n 0, 1) := by decide +kernel
theorem dX6_open_38 : decode cX6_open 38 = .ok (.getfield 29, 3) := by decide +kernel
theorem dX6_open_41 : decode cX6_open 41 = .ok (.aload_n 0, 1) := by decide +kernel
theorem dX6_open_42 : decode cX6_open 42 = .ok (.getfield 19, 3) := by decide +kernel
theorem dX6_open_45 : decode cX6_open 45 = .ok (.invokevirtual 85, 3) := by decide +kernel
theorem dX6_open_48 : decode cX6_open 48 = .ok (.invokevirtual 88, 3) := by decide +kernel
theorem dX6_open_51 : decode cX6_open 51 = .ok (.aload_n 0, 1) := by decide +kernel
theorem dX6_open_52 : decode cX6_open 52 = .ok (.getfield 36, 3) := by decide +kernel
theorem dX6_open_55 : decode cX6_open 55 = .ok (.invokevirtual 91, 3) := by decide +kernel
theorem dX6_open_58 : decode cX6_open 58 = .ok (.aload_n 0, 1) := by decide +kernel
theorem dX6_open_59 : decode cX6_open 59 = .ok (.iconst 0, 1) := by decide +kernel
theorem dX6_open_60 : decode cX6_open 60 = .ok (.putfield 58, 3) := by decide +kernel
theorem dX6_open_63 : decode cX6_open 63 = .ok (.bipush 10, 2) := by decide +kernel
theorem dX6_open_65 : decode cX6_open 65 = .ok (.aload_n 0, 1) := by decide +kernel
theorem dX6_open_66 : decode cX6_open 66 = .ok (.getfield 19, 3) := by decide +kernel
theorem dX6_open_69 : decode cX6_open 69 = .ok (.iconst 0, 1) := by decide +kernel
theorem dX6_open_70 : decode cX6_open 70 = .ok (.invokevirtual 92, 3) := by decide +kernel
theorem dX6_open_73 : decode cX6_open 73 = .ok (.imul, 1) := by decide +kernel
theorem dX6_open_74 : decode cX6_open 74 = .ok (.aload_n 0, 1) := by decide +kernel
theorem dX6_open_75 : decode cX6_open 75 = .ok (.getfield 19, 3) := by decide +kernel
theorem dX6_open_78 : decode cX6_open 78 = .ok (.iconst 1, 1) := by decide +kernel
theorem dX6_open_79 : decode cX6_open 79 = .ok (.invokevirtual 92, 3) := by decide +kernel
theorem dX6_open_82 : decode cX6_open 82 = .ok (.iadd, 1) := by decide +kernel
theorem dX6_open_83 : decode cX6_open 83 = .ok (.ireturn, 1) := by decide +kernel
set_option maxRecDepth 20000 in
theorem ggX6_about_X5_sizeOf : GoodIn wsX6_about wsX5_sizeOf := goodIn_r _ [10, 11, 97, 98] (by decide +kernel) (by decide +kernel)
set_option maxRecDepth 20000 in
theorem gX6_about_X5_sizeOf : GoodIn wsX6_about (wsV RX6 92 RX5 yX5_sizeOf wsX5_sizeOf) := goodIn_app (goodIn_of _ (by decide +kernel)) ggX6_about_X5_sizeOf
set_option maxRecDepth 20000 in
theorem ggX6_about_X6_gapOrNone : GoodIn wsX6_about wsX6_gapOrNone := goodIn_r _ [15] (by decide +kernel) (by decide +kernel)
set_option maxRecDepth 20000 in
theorem gX6_about_X6_gapOrNone : GoodIn wsX6_about (va_wsS RX6 99 yX6_gapOrNone wsX6_gapOrNone) := goodIn_app (goodIn_of _ (by decide +kernel)) ggX6_about_X6_gapOrNone
set_option maxRecDepth 20000 in
theorem ggX6_about_X6_brokenAt : GoodIn wsX6_about wsX6_brokenAt := goodIn_r _ [19, 1, 2, 6, 7, 8, 9, 10, 11, 20, 21, 22, 23, 24, 25, 26, 27, 28, 14, 29, 30, 31, 32, 33, 34, 35, 36, 37, 38, 39, 40, 41, 42, 43, 44, 45, 46, 47, 48, 49, 50, 51, 52, 53, 54, 55, 56, 57, 58, 59, 60, 61, 62, 63, 64, 65, 84, 85, 86, 87, 88, 89, 90, 91, 92, 93, 97, 98, 94, 95, 96] (by decide +kernel) (by decide +kernel)
set_option maxRecDepth 20000 in
theorem gX6_about_X6_brokenAt : GoodIn wsX6_about (wsV RX6 105 RX6 yX6_brokenAt wsX6_brokenAt) := goodIn_app (goodIn_of _ (by decide +kernel)) ggX6_about_X6_brokenAt
set_option maxRecDepth 20000 in
theorem ggX6_about_X0_size : GoodIn wsX6_about wsX0_size := goodIn_r _ [70, 71, 99, 100, 101] (by decide +kernel) (by decide +kernel)
set_option maxRecDepth 20000 in
theorem gX6_about_X0_size : GoodIn wsX6_about (wsV RX6 108 RX0 yX0_size wsX0_size) := goodIn_app (goodIn_of _ (by decide +kernel)) ggX6_about_X0_size
set_option maxRecDepth 20000 in
theorem ggX6_about_X2_size : GoodIn wsX6_about wsX2_size := goodIn_r _ [76, 77, 102, 103, 104] (by decide +kernel) (by decide +kernel)
set_option maxRecDepth 20000 in
theorem gX6_about_X2_size : GoodIn wsX6_about (wsV RX6 111 RX2 yX2_size wsX2_size) := goodIn_app (goodIn_of _ (by decide +kernel)) ggX6_about_X2_size
set_option maxRecDepth 20000 in
theorem ggX6_about_X4_length : GoodIn wsX6_about wsX4_length := goodIn_r _ [82, 83, 105, 106] (by decide +kernel) (by decide +kernel)
set_option maxRecDepth 20000 in
theorem gX6_about_X4_length : GoodIn wsX6_about (wsV RX6 74 RX4 yX4_length wsX4_length) := goodIn_app (goodIn_of _ (by decide +kernel)) ggX6_about_X4_length
theorem dX6_about_0 : decode cX6_about 0 = .ok (.iload_n 1, 1) := by decide +kernel
theorem dX6_about_1 : decode cX6_about 1 = .ok (.tableswitch 119 0 9 #[55, 55, 55, 55, 64, 75, 83, 95, 103, 111], 55) := by decide +kernel
theorem dX6_about_56 : decode cX6_about 56 = .ok (.aload_n 0, 1) := by decide +kernel
theorem dX6_about_57 : decode cX6_about 57 = .ok (.getfield 19, 3) := by decide +kernel
theorem dX6_about_60 : decode cX6_about 60 = .ok (.iload_n 1, 1) := by decide +kernel
theorem dX6_about_61 : decode cX6_about 61 = .ok (.invokevirtual 92, 3) := by decide +kernel
theorem dX6_about_64 : decode cX6_about 64 = .ok (.ireturn, 1) := by decide +kernel
theorem dX6_about_65 : decode cX6_about 65 = .ok (.aload_n 0, 1) := by decide +kernel
theorem dX6_about_66 : decode cX6_about 66 = .ok (.getfield 29, 3) := by decide +kernel
theorem dX6_about_69 : decode cX6_about 69 = .ok (.getfield 96, 3) := by decide +kernel
theorem dX6_about_72 : decode cX6_about 72 = .ok (.invokestatic 99, 3) := by decide +kernel
theorem dX6_about_75 : decode cX6_about 75 = .ok (.ireturn, 1) := by decide +kernel
theorem dX6_about_76 : decode cX6_about 76 = .ok (.aload_n 0, 1) := by decide +kernel
theorem dX6_about_77 : decode cX6_about 77 = .ok (.getfield 29, 3) := by decide +kernel
theorem dX6_about_80 : decode cX6_about 80 = .ok (.getfield 102, 3) := by decide +kernel
theorem dX6_about_83 : decode cX6_about 83 = .ok (.ireturn, 1) := by decide +kernel
theorem dX6_about_84 : decode cX6_about 84 = .ok (.aload_n 0, 1) := by decide +kernel
theorem dX6_about_85 : decode cX6_about 85 = .ok (.aload_n 0, 1) := by decide +kernel
theorem dX6_about_86 : decode cX6_about 86 = .ok (.getfield 29, 3) := by decide +kernel
theorem dX6_about_89 : decode cX6_about 89 = .ok (.getfield 96, 3) := by decide +kernel
theorem dX6_about_92 : decode cX6_about 92 = .ok (.invokevirtual 105, 3) := by decide +kernel
theorem dX6_about_95 : decode cX6_about 95 = .ok (.ireturn, 1) := by decide +kernel
theorem dX6_about_96 : decode cX6_about 96 = .ok (.aload_n 0, 1) := by decide +kernel
theorem dX6_about_97 : decode cX6_about 97 = .ok (.getfield 36, 3) := by decide +kernel
theorem dX6_about_100 : decode cX6_about 100 = .ok (.invokevirtual 108, 3) := by decide +kernel
theorem dX6_about_103 : decode cX6_about 103 = .ok (.ireturn, 1) := by decide +kernel
theorem dX6_about_104 : decode cX6_about 104 = .ok (.aload_n 0, 1) := by decide +kernel
theorem dX6_about_105 : decode cX6_about 105 = .ok (.getfield 43, 3) := by decide +kernel
theorem dX6_about_108 : decode cX6_about 108 = .ok (.invokevirtual 111, 3) := by decide +kernel
theorem dX6_about_111 : decode cX6_about 111 = .ok (.ireturn, 1) := by decide +kernel
theorem dX6_about_112 : decode cX6_about 112 = .ok (.aload_n 0, 1) := by decide +kernel
theorem dX6_about_113 : decode cX6_about 113 = .ok (.getfield 10, 3) := by decide +kernel
theorem dX6_about_116 : decode cX6_about 116 = .ok (.invokevirtual 74, 3) := by decide +kernel
theorem dX6_about_119 : decode cX6_about 119 = .ok (.ireturn, 1) := by decide +kernel
theorem dX6_about_120 : decode cX6_about 120 = .ok (.bipush (-2), 2) := by decide +kernel
theorem dX6_about_122 : decode cX6_about 122 = .ok (.ireturn, 1) := by decide +kernel
set_option maxRecDepth 20000 in
theorem ggX6_contract_X6_isContract : GoodIn wsX6_contract wsX6_isContract := goodIn_r _ [7, 1, 8, 9, 10, 11, 12, 13, 56, 57, 58, 59, 60, 61, 62, 63, 64, 65, 69, 70] (by decide +kernel) (by decide +kernel)
set_option maxRecDepth 20000 in
theorem gX6_contract_X6_isContract : GoodIn wsX6_contract (wsV RX6 112 RX6 yX6_isContract wsX6_isContract) := goodIn_app (goodIn_of _ (by decide +kernel)) ggX6_contract_X6_isContract
set_option maxRecDepth 20000 in
theorem ggX6_contract_X5_startOf : GoodIn wsX6_contract wsX5_startOf := goodIn_r _ [17, 18, 19, 20, 11, 21, 22, 23, 24, 25, 69, 70] (by decide +kernel) (by decide +kernel)
set_option maxRecDepth 20000 in
theorem gX6_contract_X5_startOf : GoodIn wsX6_contract (wsV RX6 116 RX5 yX5_startOf wsX5_startOf) := goodIn_app (goodIn_of _ (by decide +kernel)) ggX6_contract_X5_startOf
set_option maxRecDepth 20000 in
theorem ggX6_contract_X3_isByCount : GoodIn wsX6_contract wsX3_isByCount := goodIn_r _ [30, 31, 66, 67, 68] (by decide +kernel) (by decide +kernel)
set_option maxRecDepth 20000 in
theorem gX6_contract_X3_isByCount : GoodIn wsX6_contract (wsV RX6 119 RX3 yX3_isByCount wsX3_isByCount) := goodIn_app (goodIn_of _ (by decide +kernel)) ggX6_contract_X3_isByCount
set_option maxRecDepth 20000 in
theorem ggX6_contract_X5_lengthOf : GoodIn wsX6_contract wsX5_lengthOf := goodIn_r _ [35, 18, 19, 20, 11, 21, 22, 23, 24, 25, 69, 70] (by decide +kernel) (by decide +kernel)
set_option maxRecDepth 20000 in
theorem gX6_contract_X5_lengthOf : GoodIn wsX6_contract (wsV RX6 122 RX5 yX5_lengthOf wsX5_lengthOf) := goodIn_app (goodIn_of _ (by decide +kernel)) ggX6_contract_X5_lengthOf
set_option maxRecDepth 20000 in
theorem ggX6_contract_X5_latestOf : GoodIn wsX6_contract wsX5_latestOf := goodIn_r _ [39, 18, 19, 20, 11, 21, 22, 23, 24, 25, 69, 70] (by decide +kernel) (by decide +kernel)
set_option maxRecDepth 20000 in
theorem gX6_contract_X5_latestOf : GoodIn wsX6_contract (wsV RX6 125 RX5 yX5_latestOf wsX5_latestOf) := goodIn_app (goodIn_of _ (by decide +kernel)) ggX6_contract_X5_latestOf
set_option maxRecDepth 20000 in
theorem ggX6_contract_X5_leastOf : GoodIn wsX6_contract wsX5_leastOf := goodIn_r _ [43, 18, 19, 20, 11, 21, 22, 23, 24, 25, 69, 70] (by decide +kernel) (by decide +kernel)
set_option maxRecDepth 20000 in
theorem gX6_contract_X5_leastOf : GoodIn wsX6_contract (wsV RX6 128 RX5 yX5_leastOf wsX5_leastOf) := goodIn_app (goodIn_of _ (by decide +kernel)) ggX6_contract_X5_leastOf
set_option maxRecDepth 20000 in
theorem ggX6_contract_X3_isVoid : GoodIn wsX6_contract wsX3_isVoid := goodIn_r _ [47, 48, 66, 67, 68] (by decide +kernel) (by decide +kernel)
set_option maxRecDepth 20000 in
theorem gX6_contract_X3_isVoid : GoodIn wsX6_contract (wsV RX6 131 RX3 yX3_isVoid wsX3_isVoid) := goodIn_app (goodIn_of _ (by decide +kernel)) ggX6_contract_X3_isVoid
set_option maxRecDepth 20000 in
theorem ggX6_contract_X6_endOf : GoodIn wsX6_contract wsX6_endOf := goodIn_r _ [52, 1, 32, 33, 34, 11, 35, 18, 19, 20, 21, 22, 23, 24, 25, 14, 15, 16, 17, 53, 54, 6, 55, 56, 57, 58, 59, 60, 61, 62, 63, 64, 65, 69, 70] (by decide +kernel) (by decide +kernel)
set_option maxRecDepth 20000 in
theorem gX6_contract_X6_endOf : GoodIn wsX6_contract (wsV RX6 134 RX6 yX6_endOf wsX6_endOf) := goodIn_app (goodIn_of _ (by decide +kernel)) ggX6_contract_X6_endOf
theorem dX6_contract_0 : decode cX6_contract 0 = .ok (.aload_n 0, 1) := by decide +kernel
theorem dX6_contract_1 : decode cX6_contract 1 = .ok (.iload_n 1, 1) := by decide +kernel
theorem dX6_contract_2 : decode cX6_contract 2 = .ok (.invokevirtual 112, 3) := by decide +kernel
theorem dX6_contract_5 : decode cX6_contract 5 = .ok (.ifCond .ne 5, 3) := by decide +kernel
theorem dX6_contract_8 : decode cX6_contract 8 = .ok (.iconst (-1), 1) := by decide +kernel
theorem dX6_contract_9 : decode cX6_contract 9 = .ok (.ireturn, 1) := by decide +kernel
theorem dX6_contract_10 : decode cX6_contract 10 = .ok (.iload_n 2, 1) := by decide +kernel
theorem dX6_contract_11 : decode cX6_contract 11 = .ok (.tableswitch 132 0 6 #[41, 50, 67, 76, 85, 94, 111], 41) := by decide +kernel
theorem dX6_contract_52 : decode cX6_contract 52 = .ok (.aload_n 0, 1) := by decide +kernel
theorem dX6_contract_53 : decode cX6_contract 53 = .ok (.getfield 19, 3) := by decide +kernel
theorem dX6_contract_56 : decode cX6_contract 56 = .ok (.iload_n 1, 1) := by decide +kernel
theorem dX6_contract_57 : decode cX6_contract 57 = .ok (.invokevirtual 116, 3) := by decide +kernel
theorem dX6_contract_60 : decode cX6_contract 60 = .ok (.ireturn, 1) := by decide +kernel
theorem dX6_contract_61 : decode cX6_contract 61 = .ok (.aload_n 0, 1) := by decide +kernel
theorem dX6_contract_62 : decode cX6_contract 62 = .ok (.getfield 29, 3) := by decide +kernel
theorem dX6_contract_65 : decode cX6_contract 65 = .ok (.iload_n 1, 1) := by decide +kernel
theorem dX6_contract_66 : decode cX6_contract 66 = .ok (.invokevirtual 119, 3) := by decide +kernel
theorem dX6_contract_69 : decode cX6_contract 69 = .ok (.ifCond .eq 7, 3) := by decide +kernel
theorem dX6_contract_72 : decode cX6_contract 72 = .ok (.iconst 1, 1) := by decide +kernel
theorem dX6_contract_73 : decode cX6_contract 73 = .ok (.goto 4, 3) := by decide +kernel
theorem dX6_contract_76 : decode cX6_contract 76 = .ok (.iconst 0, 1) := by decide +kernel
theorem dX6_contract_77 : decode cX6_contract 77 = .ok (.ireturn, 1) := by decide +kernel
theorem dX6_contract_78 : decode cX6_contract 78 = .ok (.aload_n 0, 1) := by decide +kernel
theorem dX6_contract_79 : decode cX6_contract 79 = .ok (.getfield 19, 3) := by decide +kernel
theorem dX6_contract_82 : decode cX6_contract 82 = .ok (.iload_n 1, 1) := by decide +kernel
theorem dX6_contract_83 : decode cX6_contract 83 = .ok (.invokevirtual 122, 3) := by decide +kernel
theorem dX6_contract_86 : decode cX6_contract 86 = .ok (.ireturn, 1) := by decide +kernel
theorem dX6_contract_87 : decode cX6_contract 87 = .ok (.aload_n 0, 1) := by decide +kernel
theorem dX6_contract_88 : decode cX6_contract 88 = .ok (.getfield 19, 3) := by decide +kernel
theorem dX6_contract_91 : decode cX6_contract 91 = .ok (.iload_n 1, 1) := by decide +kernel
theorem dX6_contract_92 : decode cX6_contract 92 = .ok (.invokevirtual 125, 3) := by decide +kernel
theorem dX6_contract_95 : decode cX6_contract 95 = .ok (.ireturn, 1) := by decide +kernel
theorem dX6_contract_96 : decode cX6_contract 96 = .ok (.aload_n 0, 1) := by decide +kernel
theorem dX6_contract_97 : decode cX6_contract 97 = .ok (.getfield 19, 3) := by decide +kernel
theorem dX6_contract_100 : decode cX6_contract 100 = .ok (.iload_n 1, 1) := by decide +kernel
theorem dX6_contract_101 : decode cX6_contract 101 = .ok (.invokevirtual 128, 3) := by decide +kernel
theorem dX6_contract_104 : decode cX6_contract 104 = .ok (.ireturn, 1) := by decide +kernel
theorem dX6_contract_105 : decode cX6_contract 105 = .ok (.aload_n 0, 1) := by decide +kernel
theorem dX6_contract_106 : decode cX6_contract 106 = .ok (.getfield 29, 3) := by decide +kernel
theorem dX6_contract_109 : decode cX6_contract 109 = .ok (.iload_n 1, 1) := by decide +kernel
theorem dX6_contract_110 : decode cX6_contract 110 = .ok (.invokevirtual 131, 3) := by decide +kernel
theorem dX6_contract_113 : decode cX6_contract 113 = .ok (.ifCond .eq 7, 3) := by decide +kernel
theorem dX6_contract_116 : decode cX6_contract 116 = .ok (.iconst 1, 1) := by decide +kernel
theorem dX6_contract_117 : decode cX6_contract 117 = .ok (.goto 4, 3) := by decide +kernel
theorem dX6_contract_120 : decode cX6_contract 120 = .ok (.iconst 0, 1) := by decide +kernel
theorem dX6_contract_121 : decode cX6_contract 121 = .ok (.ireturn, 1) := by decide +kernel
theorem dX6_contract_122 : decode cX6_contract 122 = .ok (.aload_n 0, 1) := by decide +kernel
theorem dX6_contract_123 : decode cX6_contract 123 = .ok (.iload_n 1, 1) := by decide +kernel
theorem dX6_contract_124 : decode cX6_contract 124 = .ok (.aload_n 0, 1) := by decide +kernel
theorem dX6_contract_125 : decode cX6_contract 125 = .ok (.getfield 29, 3) := by decide +kernel
theorem dX6_contract_128 : decode cX6_contract 128 = .ok (.iload_n 1, 1) := by decide +kernel
theorem dX6_contract_129 : decode cX6_contract 129 = .ok (.invokevirtual 119, 3) := by decide +kernel
theorem dX6_contract_132 : decode cX6_contract 132 = .ok (.aload_n 0, 1) := by decide +kernel
theorem dX6_contract_133 : decode cX6_contract 133 = .ok (.getfield 29, 3) := by decide +kernel
theorem dX6_contract_136 : decode cX6_contract 136 = .ok (.getfield 96, 3) := by decide +kernel
theorem dX6_contract_139 : decode cX6_contract 139 = .ok (.invokevirtual 134, 3) := by decide +kernel
theorem dX6_contract_142 : decode cX6_contract 142 = .ok (.ireturn, 1) := by decide +kernel
theorem dX6_contract_143 : decode cX6_contract 143 = .ok (.bipush (-2), 2) := by decide +kernel
theorem dX6_contract_145 : decode cX6_contract 145 = .ok (.ireturn, 1) := by decide +kernel
set_option maxRecDepth 20000 in
theorem ggX6_put_X6_isPlace : GoodIn wsX6_put wsX6_isPlace := goodIn_r _ [6] (by decide +kernel) (by decide +kernel)
set_option maxRecDepth 20000 in
theorem gX6_put_X6_isPlace : GoodIn wsX6_put (va_wsS RX6 138 yX6_isPlace wsX6_isPlace) := goodIn_app (goodIn_of _ (by decide +kernel)) ggX6_put_X6_isPlace
set_option maxRecDepth 20000 in
theorem ggX6_put_X0_add : GoodIn wsX6_put wsX0_add := goodIn_r _ [11, 12, 13, 14, 15, 16, 17, 10, 18, 35, 36, 37] (by decide +kernel) (by decide +kernel)
set_option maxRecDepth 20000 in
theorem gX6_put_X0_add : GoodIn wsX6_put (wsV RX6 141 RX0 yX0_add wsX0_add) := goodIn_app (goodIn_of _ (by decide +kernel)) ggX6_put_X0_add
set_option maxRecDepth 20000 in
theorem ggX6_put_X6_gapOrNone : GoodIn wsX6_put wsX6_gapOrNone := goodIn_r _ [21] (by decide +kernel) (by decide +kernel)
set_option maxRecDepth 20000 in
theorem gX6_put_X6_gapOrNone : GoodIn wsX6_put (va_wsS RX6 99 yX6_gapOrNone wsX6_gapOrNone) := goodIn_app (goodIn_of _ (by decide +kernel)) ggX6_put_X6_gapOrNone
theorem dX6_put_0 : decode cX6_put 0 = .ok (.iload_n 1, 1) := by decide +kernel
theorem dX6_put_1 : decode cX6_put 1 = .ok (.invokestatic 138, 3) := by decide +kernel
theorem dX6_put_4 : decode cX6_put 4 = .ok (.ifCond .ne 6, 3) := by decide +kernel
theorem dX6_put_7 : decode cX6_put 7 = .ok (.bipush (-2), 2) := by decide +kernel
theorem dX6_put_9 : decode cX6_put 9 = .ok (.ireturn, 1) := by decide +kernel
theorem dX6_put_10 : decode cX6_put 10 = .ok (.iload_n 1, 1) := by decide +kernel
theorem dX6_put_11 : decode cX6_put 11 = .ok (.aload_n 0, 1) := by decide +kernel
theorem dX6_put_12 : decode cX6_put 12 = .ok (.getfield 29, 3) := by decide +kernel
theorem dX6_put_15 : decode cX6_put 15 = .ok (.getfield 96, 3) := by decide +kernel
theorem dX6_put_18 : decode cX6_put 18 = .ok (.if_icmp .ne 6, 3) := by decide +kernel
theorem dX6_put_21 : decode cX6_put 21 = .ok (.bipush (-3), 2) := by decide +kernel
theorem dX6_put_23 : decode cX6_put 23 = .ok (.ireturn, 1) := by decide +kernel
theorem dX6_put_24 : decode cX6_put 24 = .ok (.aload_n 0, 1) := by decide +kernel
theorem dX6_put_25 : decode cX6_put 25 = .ok (.getfield 29, 3) := by decide +kernel
theorem dX6_put_28 : decode cX6_put 28 = .ok (.getfield 96, 3) := by decide +kernel
theorem dX6_put_31 : decode cX6_put 31 = .ok (.istore_n 2, 1) := by decide +kernel
theorem dX6_put_32 : decode cX6_put 32 = .ok (.aload_n 0, 1) := by decide +kernel
theorem dX6_put_33 : decode cX6_put 33 = .ok (.getfield 36, 3) := by decide +kernel
theorem dX6_put_36 : decode cX6_put 36 = .ok (.iconst 0, 1) := by decide +kernel
theorem dX6_put_37 : decode cX6_put 37 = .ok (.iload_n 2, 1) := by decide +kernel
theorem dX6_put_38 : decode cX6_put 38 = .ok (.invokevirtual 141, 3) := by decide +kernel
theorem dX6_put_41 : decode cX6_put 41 = .ok (.aload_n 0, 1) := by decide +kernel
theorem dX6_put_42 : decode cX6_put 42 = .ok (.getfield 29, 3) := by decide +kernel
theorem dX6_put_45 : decode cX6_put 45 = .ok (.iload_n 1, 1) := by decide +kernel
theorem dX6_put_46 : decode cX6_put 46 = .ok (.putfield 96, 3) := by decide +kernel
theorem dX6_put_49 : decode cX6_put 49 = .ok (.iload_n 2, 1) := by decide +kernel
theorem dX6_put_50 : decode cX6_put 50 = .ok (.invokestatic 99, 3) := by decide +kernel
theorem dX6_put_53 : decode cX6_put 53 = .ok (.ireturn, 1) := by decide +kernel
set_option maxRecDepth 20000 in
theorem ggX6_turnVoid_X6_isContract : GoodIn wsX6_turnVoid wsX6_isContract := goodIn_r _ [7, 8, 9, 10, 11, 12, 13, 14, 37, 38, 39, 40, 41, 42, 43, 44, 45, 46, 47, 48] (by decide +kernel) (by decide +kernel)
set_option maxRecDepth 20000 in
theorem gX6_turnVoid_X6_isContract : GoodIn wsX6_turnVoid (wsV RX6 112 RX6 yX6_isContract wsX6_isContract) := goodIn_app (goodIn_of _ (by decide +kernel)) ggX6_turnVoid_X6_isContract
set_option maxRecDepth 20000 in
theorem ggX6_turnVoid_X0_add : GoodIn wsX6_turnVoid wsX0_add := goodIn_r _ [19, 20, 21, 22, 23, 24, 25, 18, 26, 49, 50, 51] (by decide +kernel) (by decide +kernel)
set_option maxRecDepth 20000 in
theorem gX6_turnVoid_X0_add : GoodIn wsX6_turnVoid (wsV RX6 141 RX0 yX0_add wsX0_add) := goodIn_app (goodIn_of _ (by decide +kernel)) ggX6_turnVoid_X0_add
set_option maxRecDepth 20000 in
theorem ggX6_turnVoid_X3_turnVoided : GoodIn wsX6_turnVoid wsX3_turnVoided := goodIn_r _ [31, 32, 52, 53, 54] (by decide +kernel) (by decide +kernel)
set_option maxRecDepth 20000 in
theorem gX6_turnVoid_X3_turnVoided : GoodIn wsX6_turnVoid (wsV RX6 145 RX3 yX3_turnVoided wsX3_turnVoided) := goodIn_app (goodIn_of _ (by decide +kernel)) ggX6_turnVoid_X3_turnVoided
set_option maxRecDepth 20000 in
theorem ggX6_turnVoid_X3_isVoid : GoodIn wsX6_turnVoid wsX3_isVoid := goodIn_r _ [36, 32, 52, 53, 54] (by decide +kernel) (by decide +kernel)
set_option maxRecDepth 20000 in
theorem gX6_turnVoid_X3_isVoid : GoodIn wsX6_turnVoid (wsV RX6 131 RX3 yX3_isVoid wsX3_isVoid) := goodIn_app (goodIn_of _ (by decide +kernel)) ggX6_turnVoid_X3_isVoid
theorem dX6_turnVoid_0 : decode cX6_turnVoid 0 = .ok (.aload_n 0, 1) := by decide +kernel
theorem dX6_turnVoid_1 : decode cX6_turnVoid 1 = .ok (.iload_n 1, 1) := by decide +kernel
theorem dX6_turnVoid_2 : decode cX6_turnVoid 2 = .ok (.invokevirtual 112, 3) := by decide +kernel
theorem dX6_turnVoid_5 : decode cX6_turnVoid 5 = .ok (.ifCond .ne 5, 3) := by decide +kernel
theorem dX6_turnVoid_8 : decode cX6_turnVoid 8 = .ok (.iconst (-1), 1) := by decide +kernel
theorem dX6_turnVoid_9 : decode cX6_turnVoid 9 = .ok (.ireturn, 1) := by decide +kernel
theorem dX6_turnVoid_10 : decode cX6_turnVoid 10 = .ok (.aload_n 0, 1) := by decide +kernel
theorem dX6_turnVoid_11 : decode cX6_turnVoid 11 = .ok (.getfield 36, 3) := by decide +kernel
theorem dX6_turnVoid_14 : decode cX6_turnVoid 14 = .ok (.iconst 1, 1) := by decide +kernel
theorem dX6_turnVoid_15 : decode cX6_turnVoid 15 = .ok (.iload_n 1, 1) := by decide +kernel
theorem dX6_turnVoid_16 : decode cX6_turnVoid 16 = .ok (.invokevirtual 141, 3) := by decide +kernel
theorem dX6_turnVoid_19 : decode cX6_turnVoid 19 = .ok (.aload_n 0, 1) := by decide +kernel
theorem dX6_turnVoid_20 : decode cX6_turnVoid 20 = .ok (.getfield 29, 3) := by decide +kernel
theorem dX6_turnVoid_23 : decode cX6_turnVoid 23 = .ok (.iload_n 1, 1) := by decide +kernel
theorem dX6_turnVoid_24 : decode cX6_turnVoid 24 = .ok (.invokevirtual 145, 3) := by decide +kernel
theorem dX6_turnVoid_27 : decode cX6_turnVoid 27 = .ok (.aload_n 0, 1) := by decide +kernel
theorem dX6_turnVoid_28 : decode cX6_turnVoid 28 = .ok (.getfield 29, 3) := by decide +kernel
theorem dX6_turnVoid_31 : decode cX6_turnVoid 31 = .ok (.iload_n 1, 1) := by decide +kernel
theorem dX6_turnVoid_32 : decode cX6_turnVoid 32 = .ok (.invokevirtual 131, 3) := by decide +kernel
theorem dX6_turnVoid_35 : decode cX6_turnVoid 35 = .ok (.ifCond .eq 7, 3) := by decide +kernel
theorem dX6_turnVoid_38 : decode cX6_turnVoid 38 = .ok (.iconst 1, 1) := by decide +kernel
theorem dX6_turnVoid_39 : decode cX6_turnVoid 39 = .ok (.goto 4, 3) := by decide +kernel
theorem dX6_turnVoid_42 : decode cX6_turnVoid 42 = .ok (.iconst 0, 1) := by decide +kernel
theorem dX6_turnVoid_43 : decode cX6_turnVoid 43 = .ok (.ireturn, 1) := by decide +kernel
set_option maxRecDepth 20000 in
theorem ggX6_readOtherwise_X6_isContract : GoodIn wsX6_readOtherwise wsX6_isContract := goodIn_r _ [8, 2, 9, 10, 11, 12, 13, 14, 49, 50, 51, 52, 53, 54, 55, 56, 57, 58, 59, 60] (by decide +kernel) (by decide +kernel)
set_option maxRecDepth 20000 in
theorem gX6_readOtherwise_X6_isContract : GoodIn wsX6_readOtherwise (wsV RX6 112 RX6 yX6_isContract wsX6_isContract) := goodIn_app (goodIn_of _ (by decide +kernel)) ggX6_readOtherwise_X6_isContract
set_option maxRecDepth 20000 in
theorem ggX6_readOtherwise_X3_isByCount : GoodIn wsX6_readOtherwise wsX3_isByCount := goodIn_r _ [19, 20, 61, 62, 63] (by decide +kernel) (by decide +kernel)
set_option maxRecDepth 20000 in
theorem gX6_readOtherwise_X3_isByCount : GoodIn wsX6_readOtherwise (wsV RX6 119 RX3 yX3_isByCount wsX3_isByCount) := goodIn_app (goodIn_of _ (by decide +kernel)) ggX6_readOtherwise_X3_isByCount
set_option maxRecDepth 20000 in
theorem ggX6_readOtherwise_X5_lengthOf : GoodIn wsX6_readOtherwise wsX5_lengthOf := goodIn_r _ [24, 25, 26, 27, 12, 28, 29, 30, 31, 32, 59, 60] (by decide +kernel) (by decide +kernel)
set_option maxRecDepth 20000 in
theorem gX6_readOtherwise_X5_lengthOf : GoodIn wsX6_readOtherwise (wsV RX6 122 RX5 yX5_lengthOf wsX5_lengthOf) := goodIn_app (goodIn_of _ (by decide +kernel)) ggX6_readOtherwise_X5_lengthOf
set_option maxRecDepth 20000 in
theorem ggX6_readOtherwise_X0_add : GoodIn wsX6_readOtherwise wsX0_add := goodIn_r _ [37, 38, 39, 40, 41, 42, 43, 36, 44, 64, 65, 66] (by decide +kernel) (by decide +kernel)
set_option maxRecDepth 20000 in
theorem gX6_readOtherwise_X0_add : GoodIn wsX6_readOtherwise (wsV RX6 141 RX0 yX0_add wsX0_add) := goodIn_app (goodIn_of _ (by decide +kernel)) ggX6_readOtherwise_X0_add
set_option maxRecDepth 20000 in
theorem ggX6_readOtherwise_X3_turnReading : GoodIn wsX6_readOtherwise wsX3_turnReading := goodIn_r _ [48, 20, 61, 62, 63] (by decide +kernel) (by decide +kernel)
set_option maxRecDepth 20000 in
theorem gX6_readOtherwise_X3_turnReading : GoodIn wsX6_readOtherwise (wsV RX6 148 RX3 yX3_turnReading wsX3_turnReading) := goodIn_app (goodIn_of _ (by decide +kernel)) ggX6_readOtherwise_X3_turnReading
theorem dX6_readOtherwise_0 : decode cX6_readOtherwise 0 = .ok (.aload_n 0, 1) := by decide +kernel
theorem dX6_readOtherwise_1 : decode cX6_readOtherwise 1 = .ok (.iload_n 1, 1) := by decide +kernel
theorem dX6_readOtherwise_2 : decode cX6_readOtherwise 2 = .ok (.invokevirtual 112, 3) := by decide +kernel
theorem dX6_readOtherwise_5 : decode cX6_readOtherwise 5 = .ok (.ifCond .ne 5, 3) := by decide +kernel
theorem dX6_readOtherwise_8 : decode cX6_readOtherwise 8 = .ok (.iconst (-1), 1) := by decide +kernel
theorem dX6_readOtherwise_9 : decode cX6_readOtherwise 9 = .ok (.ireturn, 1) := by decide +kernel
theorem dX6_readOtherwise_10 : decode cX6_readOtherwise 10 = .ok (.aload_n 0, 1) := by decide +kernel
theorem dX6_readOtherwise_11 : decode cX6_readOtherwise 11 = .ok (.getfield 29, 3) := by decide +kernel
theorem dX6_readOtherwise_14 : decode cX6_readOtherwise 14 = .ok (.iload_n 1, 1) := by decide +kernel
theorem dX6_readOtherwise_15 : decode cX6_readOtherwise 15 = .ok (.invokevirtual 119, 3) := by decide +kernel
theorem dX6_readOtherwise_18 : decode cX6_readOtherwise 18 = .ok (.ifCond .ne 19, 3) := by decide +kernel
theorem dX6_readOtherwise_21 : decode cX6_readOtherwise 21 = .ok (.aload_n 0, 1) := by decide +kernel
theorem dX6_readOtherwise_22 : decode cX6_readOtherwise 22 = .ok (.getfield 19, 3) := by decide +kernel
theorem dX6_readOtherwise_25 : decode cX6_readOtherwise 25 = .ok (.iload_n 1, 1) := by decide +kernel
theorem dX6_readOtherwise_26 : decode cX6_readOtherwise 26 = .ok (.invokevirtual 122, 3) := by decide +kernel
theorem dX6_readOtherwise_29 : decode cX6_readOtherwise 29 = .ok (.bipush 9, 2) := by decide +kernel
theorem dX6_readOtherwise_31 : decode cX6_readOtherwise 31 = .ok (.if_icmp .le 6, 3) := by decide +kernel
theorem dX6_readOtherwise_34 : decode cX6_readOtherwise 34 = .ok (.bipush (-3), 2) := by decide +kernel
theorem dX6_readOtherwise_36 : decode cX6_readOtherwise 36 = .ok (.ireturn, 1) := by decide +kernel
theorem dX6_readOtherwise_37 : decode cX6_readOtherwise 37 = .ok (.aload_n 0, 1) := by decide +kernel
theorem dX6_readOtherwise_38 : decode cX6_readOtherwise 38 = .ok (.getfield 36, 3) := by decide +kernel
theorem dX6_readOtherwise_41 : decode cX6_readOtherwise 41 = .ok (.iconst 2, 1) := by decide +kernel
theorem dX6_readOtherwise_42 : decode cX6_readOtherwise 42 = .ok (.iload_n 1, 1) := by decide +kernel
theorem dX6_readOtherwise_43 : decode cX6_readOtherwise 43 = .ok (.invokevirtual 141, 3) := by decide +kernel
theorem dX6_readOtherwise_46 : decode cX6_readOtherwise 46 = .ok (.aload_n 0, 1) := by decide +kernel
theorem dX6_readOtherwise_47 : decode cX6_readOtherwise 47 = .ok (.getfield 29, 3) := by decide +kernel
theorem dX6_readOtherwise_50 : decode cX6_readOtherwise 50 = .ok (.iload_n 1, 1) := by decide +kernel
theorem dX6_readOtherwise_51 : decode cX6_readOtherwise 51 = .ok (.invokevirtual 148, 3) := by decide +kernel
theorem dX6_readOtherwise_54 : decode cX6_readOtherwise 54 = .ok (.aload_n 0, 1) := by decide +kernel
theorem dX6_readOtherwise_55 : decode cX6_readOtherwise 55 = .ok (.getfield 29, 3) := by decide +kernel
theorem dX6_readOtherwise_58 : decode cX6_readOtherwise 58 = .ok (.iload_n 1, 1) := by decide +kernel
theorem dX6_readOtherwise_59 : decode cX6_readOtherwise 59 = .ok (.invokevirtual 119, 3) := by decide +kernel
theorem dX6_readOtherwise_62 : decode cX6_readOtherwise 62 = .ok (.ifCond .eq 7, 3) := by decide +kernel
theorem dX6_readOtherwise_65 : decode cX6_readOtherwise 65 = .ok (.iconst 1, 1) := by decide +kernel
theorem dX6_readOtherwise_66 : decode cX6_readOtherwise 66 = .ok (.goto 4, 3) := by decide +kernel
theorem dX6_readOtherwise_69 : decode cX6_readOtherwise 69 = .ok (.iconst 0, 1) := by decide +kernel
theorem dX6_readOtherwise_70 : decode cX6_readOtherwise 70 = .ok (.ireturn, 1) := by decide +kernel
set_option maxRecDepth 20000 in
theorem ggX6_undo_X0_size : GoodIn wsX6_undo wsX0_size := goodIn_r _ [7, 8, 47, 48, 49] (by decide +kernel) (by decide +kernel)
set_option maxRecDepth 20000 in
theorem gX6_undo_X0_size : GoodIn wsX6_undo (wsV RX6 108 RX0 yX0_size wsX0_size) := goodIn_app (goodIn_of _ (by decide +kernel)) ggX6_undo_X0_size
set_option maxRecDepth 20000 in
theorem ggX6_undo_X0_lastNumber : GoodIn wsX6_undo wsX0_lastNumber := goodIn_r _ [12, 8, 13, 47, 48, 49] (by decide +kernel) (by decide +kernel)
set_option maxRecDepth 20000 in
theorem gX6_undo_X0_lastNumber : GoodIn wsX6_undo (wsV RX6 151 RX0 yX0_lastNumber wsX0_lastNumber) := goodIn_app (goodIn_of _ (by decide +kernel)) ggX6_undo_X0_lastNumber
set_option maxRecDepth 20000 in
theorem ggX6_undo_X0_lastKind : GoodIn wsX6_undo wsX0_lastKind := goodIn_r _ [17, 8, 18, 47, 48, 49] (by decide +kernel) (by decide +kernel)
set_option maxRecDepth 20000 in
theorem gX6_undo_X0_lastKind : GoodIn wsX6_undo (wsV RX6 154 RX0 yX0_lastKind wsX0_lastKind) := goodIn_app (goodIn_of _ (by decide +kernel)) ggX6_undo_X0_lastKind
set_option maxRecDepth 20000 in
theorem ggX6_undo_X3_turnVoided : GoodIn wsX6_undo wsX3_turnVoided := goodIn_r _ [23, 24, 44, 45, 46] (by decide +kernel) (by decide +kernel)
set_option maxRecDepth 20000 in
theorem gX6_undo_X3_turnVoided : GoodIn wsX6_undo (wsV RX6 145 RX3 yX3_turnVoided wsX3_turnVoided) := goodIn_app (goodIn_of _ (by decide +kernel)) ggX6_undo_X3_turnVoided
set_option maxRecDepth 20000 in
theorem ggX6_undo_X3_turnReading : GoodIn wsX6_undo wsX3_turnReading := goodIn_r _ [28, 29, 44, 45, 46] (by decide +kernel) (by decide +kernel)
set_option maxRecDepth 20000 in
theorem gX6_undo_X3_turnReading : GoodIn wsX6_undo (wsV RX6 148 RX3 yX3_turnReading wsX3_turnReading) := goodIn_app (goodIn_of _ (by decide +kernel)) ggX6_undo_X3_turnReading
set_option maxRecDepth 20000 in
theorem ggX6_undo_X0_removeLast : GoodIn wsX6_undo wsX0_removeLast := goodIn_r _ [33, 8, 47, 48, 49] (by decide +kernel) (by decide +kernel)
set_option maxRecDepth 20000 in
theorem gX6_undo_X0_removeLast : GoodIn wsX6_undo (wsV RX6 157 RX0 yX0_removeLast wsX0_removeLast) := goodIn_app (goodIn_of _ (by decide +kernel)) ggX6_undo_X0_removeLast
theorem dX6_undo_0 : decode cX6_undo 0 = .ok (.aload_n 0, 1) := by decide +kernel
theorem dX6_undo_1 : decode cX6_undo 1 = .ok (.getfield 36, 3) := by decide +kernel
theorem dX6_undo_4 : decode cX6_undo 4 = .ok (.invokevirtual 108, 3) := by decide +kernel
theorem dX6_undo_7 : decode cX6_undo 7 = .ok (.ifCond .ne 6, 3) := by decide +kernel
theorem dX6_undo_10 : decode cX6_undo 10 = .ok (.bipush (-3), 2) := by decide +kernel
theorem dX6_undo_12 : decode cX6_undo 12 = .ok (.ireturn, 1) := by decide +kernel
theorem dX6_undo_13 : decode cX6_undo 13 = .ok (.aload_n 0, 1) := by decide +kernel
theorem dX6_undo_14 : decode cX6_undo 14 = .ok (.getfield 36, 3) := by decide +kernel
theorem dX6_undo_17 : decode cX6_undo 17 = .ok (.invokevirtual 151, 3) := by decide +kernel
theorem dX6_undo_20 : decode cX6_undo 20 = .ok (.istore_n 1, 1) := by decide +kernel
theorem dX6_undo_21 : decode cX6_undo 21 = .ok (.aload_n 0, 1) := by decide +kernel
theorem dX6_undo_22 : decode cX6_undo 22 = .ok (.getfield 36, 3) := by decide +kernel
theorem dX6_undo_25 : decode cX6_undo 25 = .ok (.invokevirtual 154, 3) := by decide +kernel
theorem dX6_undo_28 : decode cX6_undo 28 = .ok (.lookupswitch 50 #[(0, 28), (1, 39)], 28) := by decide +kernel
theorem dX6_undo_56 : decode cX6_undo 56 = .ok (.aload_n 0, 1) := by decide +kernel
theorem dX6_undo_57 : decode cX6_undo 57 = .ok (.getfield 29, 3) := by decide +kernel
theorem dX6_undo_60 : decode cX6_undo 60 = .ok (.iload_n 1, 1) := by decide +kernel
theorem dX6_undo_61 : decode cX6_undo 61 = .ok (.putfield 96, 3) := by decide +kernel
theorem dX6_undo_64 : decode cX6_undo 64 = .ok (.goto 22, 3) := by decide +kernel
theorem dX6_undo_67 : decode cX6_undo 67 = .ok (.aload_n 0, 1) := by decide +kernel
theorem dX6_undo_68 : decode cX6_undo 68 = .ok (.getfield 29, 3) := by decide +kernel
theorem dX6_undo_71 : decode cX6_undo 71 = .ok (.iload_n 1, 1) := by decide +kernel
theorem dX6_undo_72 : decode cX6_undo 72 = .ok (.invokevirtual 145, 3) := by decide +kernel
theorem dX6_undo_75 : decode cX6_undo 75 = .ok (.goto 11, 3) := by decide +kernel
theorem dX6_undo_78 : decode cX6_undo 78 = .ok (.aload_n 0, 1) := by decide +kernel
theorem dX6_undo_79 : decode cX6_undo 79 = .ok (.getfield 29, 3) := by decide +kernel
theorem dX6_undo_82 : decode cX6_undo 82 = .ok (.iload_n 1, 1) := by decide +kernel
theorem dX6_undo_83 : decode cX6_undo 83 = .ok (.invokevirtual 148, 3) := by decide +kernel
theorem dX6_undo_86 : decode cX6_undo 86 = .ok (.aload_n 0, 1) := by decide +kernel
theorem dX6_undo_87 : decode cX6_undo 87 = .ok (.getfield 36, 3) := by decide +kernel
theorem dX6_undo_90 : decode cX6_undo 90 = .ok (.invokevirtual 157, 3) := by decide +kernel
theorem dX6_undo_93 : decode cX6_undo 93 = .ok (.aload_n 0, 1) := by decide +kernel
theorem dX6_undo_94 : decode cX6_undo 94 = .ok (.getfield 36, 3) := by decide +kernel
theorem dX6_undo_97 : decode cX6_undo 97 = .ok (.invokevirtual 108, 3) := by decide +kernel
theorem dX6_undo_100 : decode cX6_undo 100 = .ok (.ireturn, 1) := by decide +kernel
set_option maxRecDepth 20000 in
theorem ggX6_broken_X6_isPlace : GoodIn wsX6_broken wsX6_isPlace := goodIn_r _ [4] (by decide +kernel) (by decide +kernel)
set_option maxRecDepth 20000 in
theorem gX6_broken_X6_isPlace : GoodIn wsX6_broken (va_wsS RX6 138 yX6_isPlace wsX6_isPlace) := goodIn_app (goodIn_of _ (by decide +kernel)) ggX6_broken_X6_isPlace
set_option maxRecDepth 20000 in
theorem ggX6_broken_X6_brokenAt : GoodIn wsX6_broken wsX6_brokenAt := goodIn_r _ [8, 9, 10, 11, 12, 13, 14, 15, 16, 17, 18, 19, 20, 21, 22, 23, 24, 25, 3, 26, 27, 28, 29, 30, 31, 32, 33, 34, 35, 36, 37, 38, 39, 40, 41, 42, 43, 44, 45, 46, 47, 48, 49, 50, 51, 52, 53, 54, 55, 56, 57, 58, 59, 60, 61, 62, 63, 64, 65, 66, 67, 68, 69, 70, 71, 72, 73, 74, 75, 76, 77] (by decide +kernel) (by decide +kernel)
set_option maxRecDepth 20000 in
theorem gX6_broken_X6_brokenAt : GoodIn wsX6_broken (wsV RX6 105 RX6 yX6_brokenAt wsX6_brokenAt) := goodIn_app (goodIn_of _ (by decide +kernel)) ggX6_broken_X6_brokenAt
theorem dX6_broken_0 : decode cX6_broken 0 = .ok (.iload_n 1, 1) := by decide +kernel
theorem dX6_broken_1 : decode cX6_broken 1 = .ok (.invokestatic 138, 3) := by decide +kernel
theorem dX6_broken_4 : decode cX6_broken 4 = .ok (.ifCond .eq 11, 3) := by decide +kernel
theorem dX6_broken_7 : decode cX6_broken 7 = .ok (.aload_n 0, 1) := by decide +kernel
theorem dX6_broken_8 : decode cX6_broken 8 = .ok (.iload_n 1, 1) := by decide +kernel
theorem dX6_broken_9 : decode cX6_broken 9 = .ok (.invokevirtual 105, 3) := by decide +kernel
theorem dX6_broken_12 : decode cX6_broken 12 = .ok (.goto 5, 3) := by decide +kernel
theorem dX6_broken_15 : decode cX6_broken 15 = .ok (.bipush (-2), 2) := by decide +kernel
theorem dX6_broken_17 : decode cX6_broken 17 = .ok (.ireturn, 1) := by decide +kernel
set_option maxRecDepth 20000 in
theorem ggX6_best_X5_sizeOf : GoodIn wsX6_best wsX5_sizeOf := goodIn_r _ [6, 7, 83, 84] (by decide +kernel) (by decide +kernel)
set_option maxRecDepth 20000 in
theorem gX6_best_X5_sizeOf : GoodIn wsX6_best (wsV RX6 92 RX5 yX5_sizeOf wsX5_sizeOf) := goodIn_app (goodIn_of _ (by decide +kernel)) ggX6_best_X5_sizeOf
set_option maxRecDepth 20000 in
theorem ggX6_best_X6_areBits : GoodIn wsX6_best wsX6_areBits := goodIn_r _ [11] (by decide +kernel) (by decide +kernel)
set_option maxRecDepth 20000 in
theorem gX6_best_X6_areBits : GoodIn wsX6_best (va_wsS RX6 160 yX6_areBits wsX6_areBits) := goodIn_app (goodIn_of _ (by decide +kernel)) ggX6_best_X6_areBits
set_option maxRecDepth 20000 in
theorem ggX6_best_X6_isZeroOrOne : GoodIn wsX6_best wsX6_isZeroOrOne := goodIn_r _ [14] (by decide +kernel) (by decide +kernel)
set_option maxRecDepth 20000 in
theorem gX6_best_X6_isZeroOrOne : GoodIn wsX6_best (va_wsS RX6 164 yX6_isZeroOrOne wsX6_isZeroOrOne) := goodIn_app (goodIn_of _ (by decide +kernel)) ggX6_best_X6_isZeroOrOne
set_option maxRecDepth 20000 in
theorem ggX6_best_X6_brokenAt : GoodIn wsX6_best wsX6_brokenAt := goodIn_r _ [18, 1, 19, 2, 3, 4, 5, 6, 7, 20, 21, 22, 23, 24, 25, 26, 27, 28, 10, 29, 30, 31, 32, 33, 34, 35, 36, 37, 38, 39, 40, 41, 42, 43, 44, 45, 46, 47, 48, 49, 50, 51, 52, 53, 54, 55, 56, 57, 58, 59, 60, 61, 62, 63, 64, 65, 73, 74, 75, 76, 77, 78, 79, 80, 81, 82, 83, 84, 85, 86, 87] (by decide +kernel) (by decide +kernel)
set_option maxRecDepth 20000 in
theorem gX6_best_X6_brokenAt : GoodIn wsX6_best (wsV RX6 105 RX6 yX6_brokenAt wsX6_brokenAt) := goodIn_app (goodIn_of _ (by decide +kernel)) ggX6_best_X6_brokenAt
set_option maxRecDepth 20000 in
theorem ggX6_best_J6_bitCount_0f7a4 : GoodIn wsX6_best wsJ6_bitCount_0f7a4 := goodIn_r _ [69, 70, 71, 72] (by decide +kernel) (by decide +kernel)
set_option maxRecDepth 20000 in
theorem gX6_best_J6_bitCount_0f7a4 : GoodIn wsX6_best (va_wsS RX6 167 yJ6_bitCount_0f7a4 wsJ6_bitCount_0f7a4) := goodIn_app (goodIn_of _ (by decide +kernel)) ggX6_best_J6_bitCount_0f7a4
theorem dX6_best_0 : decode cX6_best 0 = .ok (.iload_n 1, 1) := by decide +kernel
theorem dX6_best_1 : decode cX6_best 1 = .ok (.aload_n 0, 1) := by decide +kernel
theorem dX6_best_2 : decode cX6_best 2 = .ok (.getfield 19, 3) := by decide +kernel
theorem dX6_best_5 : decode cX6_best 5 = .ok (.iconst 0, 1) := by decide +kernel
theorem dX6_best_6 : decode cX6_best 6 = .ok (.invokevirtual 92, 3) := by decide +kernel
theorem dX6_best_9 : decode cX6_best 9 = .ok (.invokestatic 160, 3) := by decide +kernel
theorem dX6_best_12 : decode cX6_best 12 = .ok (.ifCond .eq 10, 3) := by decide +kernel
theorem dX6_best_15 : decode cX6_best 15 = .ok (.iload_n 2, 1) := by decide +kernel
theorem dX6_best_16 : decode cX6_best 16 = .ok (.invokestatic 164, 3) := by decide +kernel
theorem dX6_best_19 : decode cX6_best 19 = .ok (.ifCond .ne 6, 3) := by decide +kernel
theorem dX6_best_22 : decode cX6_best 22 = .ok (.bipush (-2), 2) := by decide +kernel
theorem dX6_best_24 : decode cX6_best 24 = .ok (.ireturn, 1) := by decide +kernel
theorem dX6_best_25 : decode cX6_best 25 = .ok (.bipush (-9), 2) := by decide +kernel
theorem dX6_best_27 : decode cX6_best 27 = .ok (.istore_n 3, 1) := by decide +kernel
theorem dX6_best_28 : decode cX6_best 28 = .ok (.bipush (-9), 2) := by decide +kernel
theorem dX6_best_30 : decode cX6_best 30 = .ok (.istore 4, 2) := by decide +kernel
theorem dX6_best_32 : decode cX6_best 32 = .ok (.iconst 0, 1) := by decide +kernel
theorem dX6_best_33 : decode cX6_best 33 = .ok (.istore 5, 2) := by decide +kernel
theorem dX6_best_35 : decode cX6_best 35 = .ok (.iload 5, 2) := by decide +kernel
theorem dX6_best_37 : decode cX6_best 37 = .ok (.bipush 14, 2) := by decide +kernel
theorem dX6_best_39 : decode cX6_best 39 = .ok (.if_icmp .ge 51, 3) := by decide +kernel
theorem dX6_best_42 : decode cX6_best 42 = .ok (.aload_n 0, 1) := by decide +kernel
theorem dX6_best_43 : decode cX6_best 43 = .ok (.iload 5, 2) := by decide +kernel
theorem dX6_best_45 : decode cX6_best 45 = .ok (.invokevirtual 105, 3) := by decide +kernel
theorem dX6_best_48 : decode cX6_best 48 = .ok (.istore 6, 2) := by decide +kernel
theorem dX6_best_50 : decode cX6_best 50 = .ok (.iload 6, 2) := by decide +kernel
theorem dX6_best_52 : decode cX6_best 52 = .ok (.invokestatic 167, 3) := by decide +kernel
theorem dX6_best_55 : decode cX6_best 55 = .ok (.istore 7, 2) := by decide +kernel
theorem dX6_best_57 : decode cX6_best 57 = .ok (.iload 6, 2) := by decide +kernel
theorem dX6_best_59 : decode cX6_best 59 = .ok (.iload_n 1, 1) := by decide +kernel
theorem dX6_best_60 : decode cX6_best 60 = .ok (.iand, 1) := by decide +kernel
theorem dX6_best_61 : decode cX6_best 61 = .ok (.ifCond .ne 23, 3) := by decide +kernel
theorem dX6_best_64 : decode cX6_best 64 = .ok (.iload_n 3, 1) := by decide +kernel
theorem dX6_best_65 : decode cX6_best 65 = .ok (.bipush (-9), 2) := by decide +kernel
theorem dX6_best_67 : decode cX6_best 67 = .ok (.if_icmp .eq 10, 3) := by decide +kernel
theorem dX6_best_70 : decode cX6_best 70 = .ok (.iload 7, 2) := by decide +kernel
theorem dX6_best_72 : decode cX6_best 72 = .ok (.iload 4, 2) := by decide +kernel
theorem dX6_best_74 : decode cX6_best 74 = .ok (.if_icmp .ge 10, 3) := by decide +kernel
theorem dX6_best_77 : decode cX6_best 77 = .ok (.iload 5, 2) := by decide +kernel
theorem dX6_best_79 : decode cX6_best 79 = .ok (.istore_n 3, 1) := by decide +kernel
theorem dX6_best_80 : decode cX6_best 80 = .ok (.iload 7, 2) := by decide +kernel
theorem dX6_best_82 : decode cX6_best 82 = .ok (.istore 4, 2) := by decide +kernel
theorem dX6_best_84 : decode cX6_best 84 = .ok (.iinc 5 1, 3) := by decide +kernel
theorem dX6_best_87 : decode cX6_best 87 = .ok (.goto (-52), 3) := by decide +kernel
theorem dX6_best_90 : decode cX6_best 90 = .ok (.iload_n 2, 1) := by decide +kernel
theorem dX6_best_91 : decode cX6_best 91 = .ok (.ifCond .ne 7, 3) := by decide +kernel
theorem dX6_best_94 : decode cX6_best 94 = .ok (.iload_n 3, 1) := by decide +kernel
theorem dX6_best_95 : decode cX6_best 95 = .ok (.goto 5, 3) := by decide +kernel
theorem dX6_best_98 : decode cX6_best 98 = .ok (.iload 4, 2) := by decide +kernel
theorem dX6_best_100 : decode cX6_best 100 = .ok (.ireturn, 1) := by decide +kernel
set_option maxRecDepth 20000 in
theorem ggX6_quarrel_X5_sizeOf : GoodIn wsX6_quarrel wsX5_sizeOf := goodIn_r _ [6, 7, 70, 71] (by decide +kernel) (by decide +kernel)
set_option maxRecDepth 20000 in
theorem gX6_quarrel_X5_sizeOf : GoodIn wsX6_quarrel (wsV RX6 92 RX5 yX5_sizeOf wsX5_sizeOf) := goodIn_app (goodIn_of _ (by decide +kernel)) ggX6_quarrel_X5_sizeOf
set_option maxRecDepth 20000 in
theorem ggX6_quarrel_X6_holdingPlaces : GoodIn wsX6_quarrel wsX6_holdingPlaces := goodIn_r _ [12, 13, 14, 15, 16, 17, 18, 19, 20, 21, 22, 11, 23, 1, 24, 25, 26, 27, 28, 29, 30, 31, 32, 33, 34, 35, 5, 36, 37, 38, 39, 40, 41, 42, 43, 44, 45, 46, 47, 48, 49, 50, 51, 52, 53, 54, 55, 56, 57, 58, 59, 60, 61, 62, 63, 64, 65, 66, 67, 68, 69, 72, 73, 74, 70, 71] (by decide +kernel) (by decide +kernel)
set_option maxRecDepth 20000 in
theorem gX6_quarrel_X6_holdingPlaces : GoodIn wsX6_quarrel (wsV RX6 172 RX6 yX6_holdingPlaces wsX6_holdingPlaces) := goodIn_app (goodIn_of _ (by decide +kernel)) ggX6_quarrel_X6_holdingPlaces
theorem dX6_quarrel_0 : decode cX6_quarrel 0 = .ok (.aload_n 0, 1) := by decide +kernel
theorem dX6_quarrel_1 : decode cX6_quarrel 1 = .ok (.getfield 19, 3) := by decide +kernel
theorem dX6_quarrel_4 : decode cX6_quarrel 4 = .ok (.iconst 0, 1) := by decide +kernel
theorem dX6_quarrel_5 : decode cX6_quarrel 5 = .ok (.invokevirtual 92, 3) := by decide +kernel
theorem dX6_quarrel_8 : decode cX6_quarrel 8 = .ok (.istore_n 1, 1) := by decide +kernel
theorem dX6_quarrel_9 : decode cX6_quarrel 9 = .ok (.iconst 0, 1) := by decide +kernel
theorem dX6_quarrel_10 : decode cX6_quarrel 10 = .ok (.istore_n 2, 1) := by decide +kernel
theorem dX6_quarrel_11 : decode cX6_quarrel 11 = .ok (.iload_n 2, 1) := by decide +kernel
theorem dX6_quarrel_12 : decode cX6_quarrel 12 = .ok (.iload_n 1, 1) := by decide +kernel
theorem dX6_quarrel_13 : decode cX6_quarrel 13 = .ok (.if_icmp .ge 64, 3) := by decide +kernel
theorem dX6_quarrel_16 : decode cX6_quarrel 16 = .ok (.aload_n 0, 1) := by decide +kernel
theorem dX6_quarrel_17 : decode cX6_quarrel 17 = .ok (.iload_n 2, 1) := by decide +kernel
theorem dX6_quarrel_18 : decode cX6_quarrel 18 = .ok (.invokevirtual 172, 3) := by decide +kernel
theorem dX6_quarrel_21 : decode cX6_quarrel 21 = .ok (.istore_n 3, 1) := by decide +kernel
theorem dX6_quarrel_22 : decode cX6_quarrel 22 = .ok (.iload_n 2, 1) := by decide +kernel
theorem dX6_quarrel_23 : decode cX6_quarrel 23 = .ok (.iconst 1, 1) := by decide +kernel
theorem dX6_quarrel_24 : decode cX6_quarrel 24 = .ok (.iadd, 1) := by decide +kernel
theorem dX6_quarrel_25 : decode cX6_quarrel 25 = .ok (.istore 4, 2) := by decide +kernel
theorem dX6_quarrel_27 : decode cX6_quarrel 27 = .ok (.iload 4, 2) := by decide +kernel
theorem dX6_quarrel_29 : decode cX6_quarrel 29 = .ok (.iload_n 1, 1) := by decide +kernel
theorem dX6_quarrel_30 : decode cX6_quarrel 30 = .ok (.if_icmp .ge 41, 3) := by decide +kernel
theorem dX6_quarrel_33 : decode cX6_quarrel 33 = .ok (.aload_n 0, 1) := by decide +kernel
theorem dX6_quarrel_34 : decode cX6_quarrel 34 = .ok (.iload 4, 2) := by decide +kernel
theorem dX6_quarrel_36 : decode cX6_quarrel 36 = .ok (.invokevirtual 172, 3) := by decide +kernel
theorem dX6_quarrel_39 : decode cX6_quarrel 39 = .ok (.istore 5, 2) := by decide +kernel
theorem dX6_quarrel_41 : decode cX6_quarrel 41 = .ok (.iload_n 3, 1) := by decide +kernel
theorem dX6_quarrel_42 : decode cX6_quarrel 42 = .ok (.ifCond .eq 23, 3) := by decide +kernel
theorem dX6_quarrel_45 : decode cX6_quarrel 45 = .ok (.iload 5, 2) := by decide +kernel
theorem dX6_quarrel_47 : decode cX6_quarrel 47 = .ok (.ifCond .eq 18, 3) := by decide +kernel
theorem dX6_quarrel_50 : decode cX6_quarrel 50 = .ok (.iload_n 3, 1) := by decide +kernel
theorem dX6_quarrel_51 : decode cX6_quarrel 51 = .ok (.iload 5, 2) := by decide +kernel
theorem dX6_quarrel_53 : decode cX6_quarrel 53 = .ok (.iand, 1) := by decide +kernel
theorem dX6_quarrel_54 : decode cX6_quarrel 54 = .ok (.ifCond .ne 11, 3) := by decide +kernel
theorem dX6_quarrel_57 : decode cX6_quarrel 57 = .ok (.bipush 10, 2) := by decide +kernel
theorem dX6_quarrel_59 : decode cX6_quarrel 59 = .ok (.iload_n 2, 1) := by decide +kernel
theorem dX6_quarrel_60 : decode cX6_quarrel 60 = .ok (.imul, 1) := by decide +kernel
theorem dX6_quarrel_61 : decode cX6_quarrel 61 = .ok (.iload 4, 2) := by decide +kernel
theorem dX6_quarrel_63 : decode cX6_quarrel 63 = .ok (.iadd, 1) := by decide +kernel
theorem dX6_quarrel_64 : decode cX6_quarrel 64 = .ok (.ireturn, 1) := by decide +kernel
theorem dX6_quarrel_65 : decode cX6_quarrel 65 = .ok (.iinc 4 1, 3) := by decide +kernel
theorem dX6_quarrel_68 : decode cX6_quarrel 68 = .ok (.goto (-41), 3) := by decide +kernel
theorem dX6_quarrel_71 : decode cX6_quarrel 71 = .ok (.iinc 2 1, 3) := by decide +kernel
theorem dX6_quarrel_74 : decode cX6_quarrel 74 = .ok (.goto (-63), 3) := by decide +kernel
theorem dX6_quarrel_77 : decode cX6_quarrel 77 = .ok (.bipush (-9), 2) := by decide +kernel
theorem dX6_quarrel_79 : decode cX6_quarrel 79 = .ok (.ireturn, 1) := by decide +kernel
set_option maxRecDepth 20000 in
theorem ggX6_drop_X6_brokenAt : GoodIn wsX6_drop wsX6_brokenAt := goodIn_r _ [5, 6, 7, 8, 9, 10, 11, 12, 13, 14, 15, 16, 17, 18, 19, 20, 21, 22, 4, 23, 24, 25, 26, 27, 28, 29, 30, 31, 32, 33, 34, 35, 36, 37, 38, 39, 40, 41, 42, 43, 44, 45, 46, 47, 48, 49, 50, 51, 52, 53, 54, 55, 56, 57, 58, 59, 70, 71, 72, 73, 74, 75, 76, 77, 78, 79, 80, 81, 82, 83, 84] (by decide +kernel) (by decide +kernel)
set_option maxRecDepth 20000 in
theorem gX6_drop_X6_brokenAt : GoodIn wsX6_drop (wsV RX6 105 RX6 yX6_brokenAt wsX6_brokenAt) := goodIn_app (goodIn_of _ (by decide +kernel)) ggX6_drop_X6_brokenAt
set_option maxRecDepth 20000 in
theorem ggX6_drop_X6_isSmallerSet : GoodIn wsX6_drop wsX6_isSmallerSet := goodIn_r _ [62, 63, 64, 65, 66, 67, 68, 69] (by decide +kernel) (by decide +kernel)
set_option maxRecDepth 20000 in
theorem gX6_drop_X6_isSmallerSet : GoodIn wsX6_drop (va_wsS RX6 175 yX6_isSmallerSet wsX6_isSmallerSet) := goodIn_app (goodIn_of _ (by decide +kernel)) ggX6_drop_X6_isSmallerSet
theorem dX6_drop_0 : decode cX6_drop 0 = .ok (.aload_n 0, 1) := by decide +kernel
theorem dX6_drop_1 : decode cX6_drop 1 = .ok (.iconst 0, 1) := by decide +kernel
theorem dX6_drop_2 : decode cX6_drop 2 = .ok (.invokevirtual 105, 3) := by decide +kernel
theorem dX6_drop_5 : decode cX6_drop 5 = .ok (.istore_n 1, 1) := by decide +kernel
theorem dX6_drop_6 : decode cX6_drop 6 = .ok (.iconst 1, 1) := by decide +kernel
theorem dX6_drop_7 : decode cX6_drop 7 = .ok (.istore_n 2, 1) := by decide +kernel
theorem dX6_drop_8 : decode cX6_drop 8 = .ok (.iload_n 2, 1) := by decide +kernel
theorem dX6_drop_9 : decode cX6_drop 9 = .ok (.bipush 13, 2) := by decide +kernel
theorem dX6_drop_11 : decode cX6_drop 11 = .ok (.if_icmp .ge 25, 3) := by decide +kernel
theorem dX6_drop_14 : decode cX6_drop 14 = .ok (.aload_n 0, 1) := by decide +kernel
theorem dX6_drop_15 : decode cX6_drop 15 = .ok (.iload_n 2, 1) := by decide +kernel
theorem dX6_drop_16 : decode cX6_drop 16 = .ok (.invokevirtual 105, 3) := by decide +kernel
theorem dX6_drop_19 : decode cX6_drop 19 = .ok (.istore_n 3, 1) := by decide +kernel
theorem dX6_drop_20 : decode cX6_drop 20 = .ok (.iload_n 3, 1) := by decide +kernel
theorem dX6_drop_21 : decode cX6_drop 21 = .ok (.iload_n 1, 1) := by decide +kernel
theorem dX6_drop_22 : decode cX6_drop 22 = .ok (.invokestatic 175, 3) := by decide +kernel
theorem dX6_drop_25 : decode cX6_drop 25 = .ok (.ifCond .eq 5, 3) := by decide +kernel
theorem dX6_drop_28 : decode cX6_drop 28 = .ok (.iload_n 3, 1) := by decide +kernel
theorem dX6_drop_29 : decode cX6_drop 29 = .ok (.istore_n 1, 1) := by decide +kernel
theorem dX6_drop_30 : decode cX6_drop 30 = .ok (.iinc 2 1, 3) := by decide +kernel
theorem dX6_drop_33 : decode cX6_drop 33 = .ok (.goto (-25), 3) := by decide +kernel
theorem dX6_drop_36 : decode cX6_drop 36 = .ok (.iload_n 1, 1) := by decide +kernel
theorem dX6_drop_37 : decode cX6_drop 37 = .ok (.ireturn, 1) := by decide +kernel
set_option maxRecDepth 20000 in
theorem ggX6_see_X6_isContract : GoodIn wsX6_see wsX6_isContract := goodIn_r _ [6, 7, 8, 9, 10, 11, 12, 13, 34, 35, 36, 37, 38, 39, 40, 41, 42, 43, 44, 45] (by decide +kernel) (by decide +kernel)
set_option maxRecDepth 20000 in
theorem gX6_see_X6_isContract : GoodIn wsX6_see (wsV RX6 112 RX6 yX6_isContract wsX6_isContract) := goodIn_app (goodIn_of _ (by decide +kernel)) ggX6_see_X6_isContract
set_option maxRecDepth 20000 in
theorem ggX6_see_X6_isDay : GoodIn wsX6_see wsX6_isDay := goodIn_r _ [16] (by decide +kernel) (by decide +kernel)
set_option maxRecDepth 20000 in
theorem gX6_see_X6_isDay : GoodIn wsX6_see (va_wsS RX6 178 yX6_isDay wsX6_isDay) := goodIn_app (goodIn_of _ (by decide +kernel)) ggX6_see_X6_isDay
set_option maxRecDepth 20000 in
theorem ggX6_see_X2_isFull : GoodIn wsX6_see wsX2_isFull := goodIn_r _ [21, 22, 46, 47, 48] (by decide +kernel) (by decide +kernel)
set_option maxRecDepth 20000 in
theorem gX6_see_X2_isFull : GoodIn wsX6_see (wsV RX6 181 RX2 yX2_isFull wsX2_isFull) := goodIn_app (goodIn_of _ (by decide +kernel)) ggX6_see_X2_isFull
set_option maxRecDepth 20000 in
theorem ggX6_see_X2_add : GoodIn wsX6_see wsX2_add := goodIn_r _ [26, 27, 22, 28, 29, 18, 19, 20, 21, 46, 47, 48] (by decide +kernel) (by decide +kernel)
set_option maxRecDepth 20000 in
theorem gX6_see_X2_add : GoodIn wsX6_see (wsV RX6 182 RX2 yX2_add wsX2_add) := goodIn_app (goodIn_of _ (by decide +kernel)) ggX6_see_X2_add
set_option maxRecDepth 20000 in
theorem ggX6_see_X2_size : GoodIn wsX6_see wsX2_size := goodIn_r _ [33, 22, 46, 47, 48] (by decide +kernel) (by decide +kernel)
set_option maxRecDepth 20000 in
theorem gX6_see_X2_size : GoodIn wsX6_see (wsV RX6 111 RX2 yX2_size wsX2_size) := goodIn_app (goodIn_of _ (by decide +kernel)) ggX6_see_X2_size
theorem dX6_see_0 : decode cX6_see 0 = .ok (.aload_n 0, 1) := by decide +kernel
theorem dX6_see_1 : decode cX6_see 1 = .ok (.iload_n 1, 1) := by decide +kernel
theorem dX6_see_2 : decode cX6_see 2 = .ok (.invokevirtual 112, 3) := by decide +kernel
theorem dX6_see_5 : decode cX6_see 5 = .ok (.ifCond .ne 5, 3) := by decide +kernel
theorem dX6_see_8 : decode cX6_see 8 = .ok (.iconst (-1), 1) := by decide +kernel
theorem dX6_see_9 : decode cX6_see 9 = .ok (.ireturn, 1) := by decide +kernel
theorem dX6_see_10 : decode cX6_see 10 = .ok (.iload_n 2, 1) := by decide +kernel
theorem dX6_see_11 : decode cX6_see 11 = .ok (.invokestatic 178, 3) := by decide +kernel
theorem dX6_see_14 : decode cX6_see 14 = .ok (.ifCond .ne 6, 3) := by decide +kernel
theorem dX6_see_17 : decode cX6_see 17 = .ok (.bipush (-2), 2) := by decide +kernel
theorem dX6_see_19 : decode cX6_see 19 = .ok (.ireturn, 1) := by decide +kernel
theorem dX6_see_20 : decode cX6_see 20 = .ok (.aload_n 0, 1) := by decide +kernel
theorem dX6_see_21 : decode cX6_see 21 = .ok (.getfield 43, 3) := by decide +kernel
theorem dX6_see_24 : decode cX6_see 24 = .ok (.invokevirtual 181, 3) := by decide +kernel
theorem dX6_see_27 : decode cX6_see 27 = .ok (.ifCond .eq 6, 3) := by decide +kernel
theorem dX6_see_30 : decode cX6_see 30 = .ok (.bipush (-4), 2) := by decide +kernel
theorem dX6_see_32 : decode cX6_see 32 = .ok (.ireturn, 1) := by decide +kernel
theorem dX6_see_33 : decode cX6_see 33 = .ok (.aload_n 0, 1) := by decide +kernel
theorem dX6_see_34 : decode cX6_see 34 = .ok (.getfield 43, 3) := by decide +kernel
theorem dX6_see_37 : decode cX6_see 37 = .ok (.iload_n 1, 1) := by decide +kernel
theorem dX6_see_38 : decode cX6_see 38 = .ok (.iload_n 2, 1) := by decide +kernel
theorem dX6_see_39 : decode cX6_see 39 = .ok (.invokevirtual 182, 3) := by decide +kernel
theorem dX6_see_42 : decode cX6_see 42 = .ok (.aload_n 0, 1) := by decide +kernel
theorem dX6_see_43 : decode cX6_see 43 = .ok (.getfield 43, 3) := by decide +kernel
theorem dX6_see_46 : decode cX6_see 46 = .ok (.invokevirtual 111, 3) := by decide +kernel
theorem dX6_see_49 : decode cX6_see 49 = .ok (.ireturn, 1) := by decide +kernel
set_option maxRecDepth 20000 in
theorem ggX6_unsee_X2_size : GoodIn wsX6_unsee wsX2_size := goodIn_r _ [6, 7, 22, 23, 24] (by decide +kernel) (by decide +kernel)
set_option maxRecDepth 20000 in
theorem gX6_unsee_X2_size : GoodIn wsX6_unsee (wsV RX6 111 RX2 yX2_size wsX2_size) := goodIn_app (goodIn_of _ (by decide +kernel)) ggX6_unsee_X2_size
set_option maxRecDepth 20000 in
theorem ggX6_unsee_X2_clear : GoodIn wsX6_unsee wsX2_clear := goodIn_r _ [11, 7, 22, 23, 24] (by decide +kernel) (by decide +kernel)
set_option maxRecDepth 20000 in
theorem gX6_unsee_X2_clear : GoodIn wsX6_unsee (wsV RX6 183 RX2 yX2_clear wsX2_clear) := goodIn_app (goodIn_of _ (by decide +kernel)) ggX6_unsee_X2_clear
theorem dX6_unsee_0 : decode cX6_unsee 0 = .ok (.aload_n 0, 1) := by decide +kernel
theorem dX6_unsee_1 : decode cX6_unsee 1 = .ok (.getfield 43, 3) := by decide +kernel
theorem dX6_unsee_4 : decode cX6_unsee 4 = .ok (.invokevirtual 111, 3) := by decide +kernel
theorem dX6_unsee_7 : decode cX6_unsee 7 = .ok (.istore_n 1, 1) := by decide +kernel
theorem dX6_unsee_8 : decode cX6_unsee 8 = .ok (.aload_n 0, 1) := by decide +kernel
theorem dX6_unsee_9 : decode cX6_unsee 9 = .ok (.getfield 43, 3) := by decide +kernel
theorem dX6_unsee_12 : decode cX6_unsee 12 = .ok (.invokevirtual 183, 3) := by decide +kernel
theorem dX6_unsee_15 : decode cX6_unsee 15 = .ok (.iload_n 1, 1) := by decide +kernel
theorem dX6_unsee_16 : decode cX6_unsee 16 = .ok (.ireturn, 1) := by decide +kernel
set_option maxRecDepth 20000 in
theorem ggX6_meant_X6_isContract : GoodIn wsX6_meant wsX6_isContract := goodIn_r _ [5, 6, 7, 8, 9, 10, 11, 12, 58, 59, 60, 61, 62, 63, 64, 65, 66, 67, 68, 69] (by decide +kernel) (by decide +kernel)
set_option maxRecDepth 20000 in
theorem gX6_meant_X6_isContract : GoodIn wsX6_meant (wsV RX6 112 RX6 yX6_isContract wsX6_isContract) := goodIn_app (goodIn_of _ (by decide +kernel)) ggX6_meant_X6_isContract
set_option maxRecDepth 20000 in
theorem ggX6_meant_X6_endsAsSeen : GoodIn wsX6_meant wsX6_endsAsSeen := goodIn_r _ [16, 17, 18, 19, 20, 21, 4, 22, 6, 23, 24, 25, 10, 26, 27, 28, 29, 30, 31, 32, 33, 34, 35, 36, 37, 38, 39, 40, 41, 42, 43, 44, 45, 46, 47, 48, 49, 50, 51, 52, 53, 54, 55, 56, 57, 58, 59, 60, 61, 62, 63, 64, 65, 66, 67, 70, 71, 72, 68, 69, 73, 74, 75] (by decide +kernel) (by decide +kernel)
set_option maxRecDepth 20000 in
theorem gX6_meant_X6_endsAsSeen : GoodIn wsX6_meant (wsV RX6 184 RX6 yX6_endsAsSeen wsX6_endsAsSeen) := goodIn_app (goodIn_of _ (by decide +kernel)) ggX6_meant_X6_endsAsSeen
theorem dX6_meant_0 : decode cX6_meant 0 = .ok (.aload_n 0, 1) := by decide +kernel
theorem dX6_meant_1 : decode cX6_meant 1 = .ok (.iload_n 1, 1) := by decide +kernel
theorem dX6_meant_2 : decode cX6_meant 2 = .ok (.invokevirtual 112, 3) := by decide +kernel
theorem dX6_meant_5 : decode cX6_meant 5 = .ok (.ifCond .ne 5, 3) := by decide +kernel
theorem dX6_meant_8 : decode cX6_meant 8 = .ok (.iconst (-1), 1) := by decide +kernel
theorem dX6_meant_9 : decode cX6_meant 9 = .ok (.ireturn, 1) := by decide +kernel
theorem dX6_meant_10 : decode cX6_meant 10 = .ok (.iconst 0, 1) := by decide +kernel
theorem dX6_meant_11 : decode cX6_meant 11 = .ok (.istore_n 2, 1) := by decide +kernel
theorem dX6_meant_12 : decode cX6_meant 12 = .ok (.aload_n 0, 1) := by decide +kernel
theorem dX6_meant_13 : decode cX6_meant 13 = .ok (.iload_n 1, 1) := by decide +kernel
theorem dX6_meant_14 : decode cX6_meant 14 = .ok (.iconst 0, 1) := by decide +kernel
theorem dX6_meant_15 : decode cX6_meant 15 = .ok (.invokevirtual 184, 3) := by decide +kernel
theorem dX6_meant_18 : decode cX6_meant 18 = .ok (.ifCond .eq 6, 3) := by decide +kernel
theorem dX6_meant_21 : decode cX6_meant 21 = .ok (.iinc 2 1, 3) := by decide +kernel
theorem dX6_meant_24 : decode cX6_meant 24 = .ok (.aload_n 0, 1) := by decide +kernel
theorem dX6_meant_25 : decode cX6_meant 25 = .ok (.iload_n 1, 1) := by decide +kernel
theorem dX6_meant_26 : decode cX6_meant 26 = .ok (.iconst 1, 1) := by decide +kernel
theorem dX6_meant_27 : decode cX6_meant 27 = .ok (.invokevirtual 184, 3) := by decide +kernel
theorem dX6_meant_30 : decode cX6_meant 30 = .ok (.ifCond .eq 6, 3) := by decide +kernel
theorem dX6_meant_33 : decode cX6_meant 33 = .ok (.iinc 2 2, 3) := by decide +kernel
theorem dX6_meant_36 : decode cX6_meant 36 = .ok (.iload_n 2, 1) := by decide +kernel
theorem dX6_meant_37 : decode cX6_meant 37 = .ok (.ireturn, 1) := by decide +kernel
set_option maxRecDepth 20000 in
theorem ggX6_ofAge_X5_sizeOf : GoodIn wsX6_ofAge wsX5_sizeOf := goodIn_r _ [6, 7, 44, 45] (by decide +kernel) (by decide +kernel)
set_option maxRecDepth 20000 in
theorem gX6_ofAge_X5_sizeOf : GoodIn wsX6_ofAge (wsV RX6 92 RX5 yX5_sizeOf wsX5_sizeOf) := goodIn_app (goodIn_of _ (by decide +kernel)) ggX6_ofAge_X5_sizeOf
set_option maxRecDepth 20000 in
theorem ggX6_ofAge_X6_isPlace : GoodIn wsX6_ofAge wsX6_isPlace := goodIn_r _ [11] (by decide +kernel) (by decide +kernel)
set_option maxRecDepth 20000 in
theorem gX6_ofAge_X6_isPlace : GoodIn wsX6_ofAge (va_wsS RX6 138 yX6_isPlace wsX6_isPlace) := goodIn_app (goodIn_of _ (by decide +kernel)) ggX6_ofAge_X6_isPlace
set_option maxRecDepth 20000 in
theorem ggX6_ofAge_X5_birthDay : GoodIn wsX6_ofAge wsX5_birthDay := goodIn_r _ [15, 16, 17, 18, 5, 19, 20, 21, 22, 23, 44, 45] (by decide +kernel) (by decide +kernel)
set_option maxRecDepth 20000 in
theorem gX6_ofAge_X5_birthDay : GoodIn wsX6_ofAge (wsV RX6 188 RX5 yX5_birthDay wsX5_birthDay) := goodIn_app (goodIn_of _ (by decide +kernel)) ggX6_ofAge_X5_birthDay
set_option maxRecDepth 20000 in
theorem ggX6_ofAge_X6_comingOf : GoodIn wsX6_ofAge wsX6_comingOf := goodIn_r _ [26] (by decide +kernel) (by decide +kernel)
set_option maxRecDepth 20000 in
theorem gX6_ofAge_X6_comingOf : GoodIn wsX6_ofAge (va_wsS RX6 191 yX6_comingOf wsX6_comingOf) := goodIn_app (goodIn_of _ (by decide +kernel)) ggX6_ofAge_X6_comingOf
set_option maxRecDepth 20000 in
theorem ggX6_ofAge_X5_fullAge : GoodIn wsX6_ofAge wsX5_fullAge := goodIn_r _ [30, 16, 17, 18, 5, 19, 20, 21, 22, 23, 44, 45] (by decide +kernel) (by decide +kernel)
set_option maxRecDepth 20000 in
theorem gX6_ofAge_X5_fullAge : GoodIn wsX6_ofAge (wsV RX6 195 RX5 yX5_fullAge wsX5_fullAge) := goodIn_app (goodIn_of _ (by decide +kernel)) ggX6_ofAge_X5_fullAge
set_option maxRecDepth 20000 in
theorem ggX6_ofAge_X6_nameOf : GoodIn wsX6_ofAge wsX6_nameOf := goodIn_r _ [33] (by decide +kernel) (by decide +kernel)
set_option maxRecDepth 20000 in
theorem gX6_ofAge_X6_nameOf : GoodIn wsX6_ofAge (va_wsS RX6 198 yX6_nameOf wsX6_nameOf) := goodIn_app (goodIn_of _ (by decide +kernel)) ggX6_ofAge_X6_nameOf
theorem dX6_ofAge_0 : decode cX6_ofAge 0 = .ok (.iload_n 1, 1) := by decide +kernel
theorem dX6_ofAge_1 : decode cX6_ofAge 1 = .ok (.ifCond .lt 15, 3) := by decide +kernel
theorem dX6_ofAge_4 : decode cX6_ofAge 4 = .ok (.iload_n 1, 1) := by decide +kernel
theorem dX6_ofAge_5 : decode cX6_ofAge 5 = .ok (.aload_n 0, 1) := by decide +kernel
theorem dX6_ofAge_6 : decode cX6_ofAge 6 = .ok (.getfield 19, 3) := by decide +kernel
theorem dX6_ofAge_9 : decode cX6_ofAge 9 = .ok (.iconst 1, 1) := by decide +kernel
theorem dX6_ofAge_10 : decode cX6_ofAge 10 = .ok (.invokevirtual 92, 3) := by decide +kernel
theorem dX6_ofAge_13 : decode cX6_ofAge 13 = .ok (.if_icmp .lt 5, 3) := by decide +kernel
theorem dX6_ofAge_16 : decode cX6_ofAge 16 = .ok (.iconst (-1), 1) := by decide +kernel
theorem dX6_ofAge_17 : decode cX6_ofAge 17 = .ok (.ireturn, 1) := by decide +kernel
theorem dX6_ofAge_18 : decode cX6_ofAge 18 = .ok (.iload_n 2, 1) := by decide +kernel
theorem dX6_ofAge_19 : decode cX6_ofAge 19 = .ok (.invokestatic 138, 3) := by decide +kernel
theorem dX6_ofAge_22 : decode cX6_ofAge 22 = .ok (.ifCond .ne 6, 3) := by decide +kernel
theorem dX6_ofAge_25 : decode cX6_ofAge 25 = .ok (.bipush (-2), 2) := by decide +kernel
theorem dX6_ofAge_27 : decode cX6_ofAge 27 = .ok (.ireturn, 1) := by decide +kernel
theorem dX6_ofAge_28 : decode cX6_ofAge 28 = .ok (.aload_n 0, 1) := by decide +kernel
theorem dX6_ofAge_29 : decode cX6_ofAge 29 = .ok (.getfield 19, 3) := by decide +kernel
theorem dX6_ofAge_32 : decode cX6_ofAge 32 = .ok (.iload_n 1, 1) := by decide +kernel
theorem dX6_ofAge_33 : decode cX6_ofAge 33 = .ok (.invokevirtual 188, 3) := by decide +kernel
theorem dX6_ofAge_36 : decode cX6_ofAge 36 = .ok (.iload_n 2, 1) := by decide +kernel
theorem dX6_ofAge_37 : decode cX6_ofAge 37 = .ok (.invokestatic 191, 3) := by decide +kernel
theorem dX6_ofAge_40 : decode cX6_ofAge 40 = .ok (.aload_n 0, 1) := by decide +kernel
theorem dX6_ofAge_41 : decode cX6_ofAge 41 = .ok (.getfield 19, 3) := by decide +kernel
theorem dX6_ofAge_44 : decode cX6_ofAge 44 = .ok (.iload_n 1, 1) := by decide +kernel
theorem dX6_ofAge_45 : decode cX6_ofAge 45 = .ok (.invokevirtual 195, 3) := by decide +kernel
theorem dX6_ofAge_48 : decode cX6_ofAge 48 = .ok (.iadd, 1) := by decide +kernel
theorem dX6_ofAge_49 : decode cX6_ofAge 49 = .ok (.iload_n 2, 1) := by decide +kernel
theorem dX6_ofAge_50 : decode cX6_ofAge 50 = .ok (.invokestatic 198, 3) := by decide +kernel
theorem dX6_ofAge_53 : decode cX6_ofAge 53 = .ok (.ireturn, 1) := by decide +kernel
set_option maxRecDepth 20000 in
theorem ggX6_agree_X6_isDay : GoodIn wsX6_agree wsX6_isDay := goodIn_r _ [5] (by decide +kernel) (by decide +kernel)
set_option maxRecDepth 20000 in
theorem gX6_agree_X6_isDay : GoodIn wsX6_agree (va_wsS RX6 178 yX6_isDay wsX6_isDay) := goodIn_app (goodIn_of _ (by decide +kernel)) ggX6_agree_X6_isDay
set_option maxRecDepth 20000 in
theorem ggX6_agree_X6_isPlace : GoodIn wsX6_agree wsX6_isPlace := goodIn_r _ [8] (by decide +kernel) (by decide +kernel)
set_option maxRecDepth 20000 in
theorem gX6_agree_X6_isPlace : GoodIn wsX6_agree (va_wsS RX6 138 yX6_isPlace wsX6_isPlace) := goodIn_app (goodIn_of _ (by decide +kernel)) ggX6_agree_X6_isPlace
set_option maxRecDepth 20000 in
theorem ggX6_agree_X6_comingOf : GoodIn wsX6_agree wsX6_comingOf := goodIn_r _ [11] (by decide +kernel) (by decide +kernel)
set_option maxRecDepth 20000 in
theorem gX6_agree_X6_comingOf : GoodIn wsX6_agree (va_wsS RX6 191 yX6_comingOf wsX6_comingOf) := goodIn_app (goodIn_of _ (by decide +kernel)) ggX6_agree_X6_comingOf
set_option maxRecDepth 20000 in
theorem ggX6_agree_X5_sizeOf : GoodIn wsX6_agree wsX5_sizeOf := goodIn_r _ [16, 17, 48, 49] (by decide +kernel) (by decide +kernel)
set_option maxRecDepth 20000 in
theorem gX6_agree_X5_sizeOf : GoodIn wsX6_agree (wsV RX6 92 RX5 yX5_sizeOf wsX5_sizeOf) := goodIn_app (goodIn_of _ (by decide +kernel)) ggX6_agree_X5_sizeOf
set_option maxRecDepth 20000 in
theorem ggX6_agree_X6_comesOn : GoodIn wsX6_agree wsX6_comesOn := goodIn_r _ [21, 1, 22, 23, 24, 15, 25, 26, 27, 28, 29, 30, 31, 32, 33, 34, 35, 36, 37, 38, 39, 40, 41, 42, 43, 44, 45, 46, 47, 48, 49] (by decide +kernel) (by decide +kernel)
set_option maxRecDepth 20000 in
theorem gX6_agree_X6_comesOn : GoodIn wsX6_agree (wsV RX6 201 RX6 yX6_comesOn wsX6_comesOn) := goodIn_app (goodIn_of _ (by decide +kernel)) ggX6_agree_X6_comesOn
theorem dX6_agree_0 : decode cX6_agree 0 = .ok (.iload_n 1, 1) := by decide +kernel
theorem dX6_agree_1 : decode cX6_agree 1 = .ok (.invokestatic 178, 3) := by decide +kernel
theorem dX6_agree_4 : decode cX6_agree 4 = .ok (.ifCond .eq 10, 3) := by decide +kernel
theorem dX6_agree_7 : decode cX6_agree 7 = .ok (.iload_n 2, 1) := by decide +kernel
theorem dX6_agree_8 : decode cX6_agree 8 = .ok (.invokestatic 138, 3) := by decide +kernel
theorem dX6_agree_11 : decode cX6_agree 11 = .ok (.ifCond .ne 6, 3) := by decide +kernel
theorem dX6_agree_14 : decode cX6_agree 14 = .ok (.bipush (-2), 2) := by decide +kernel
theorem dX6_agree_16 : decode cX6_agree 16 = .ok (.ireturn, 1) := by decide +kernel
theorem dX6_agree_17 : decode cX6_agree 17 = .ok (.iload_n 1, 1) := by decide +kernel
theorem dX6_agree_18 : decode cX6_agree 18 = .ok (.iload_n 2, 1) := by decide +kernel
theorem dX6_agree_19 : decode cX6_agree 19 = .ok (.invokestatic 191, 3) := by decide +kernel
theorem dX6_agree_22 : decode cX6_agree 22 = .ok (.istore_n 3, 1) := by decide +kernel
theorem dX6_agree_23 : decode cX6_agree 23 = .ok (.iconst 0, 1) := by decide +kernel
theorem dX6_agree_24 : decode cX6_agree 24 = .ok (.istore 4, 2) := by decide +kernel
theorem dX6_agree_26 : decode cX6_agree 26 = .ok (.iconst 0, 1) := by decide +kernel
theorem dX6_agree_27 : decode cX6_agree 27 = .ok (.istore 5, 2) := by decide +kernel
theorem dX6_agree_29 : decode cX6_agree 29 = .ok (.iload 5, 2) := by decide +kernel
theorem dX6_agree_31 : decode cX6_agree 31 = .ok (.aload_n 0, 1) := by decide +kernel
theorem dX6_agree_32 : decode cX6_agree 32 = .ok (.getfield 19, 3) := by decide +kernel
theorem dX6_agree_35 : decode cX6_agree 35 = .ok (.iconst 2, 1) := by decide +kernel
theorem dX6_agree_36 : decode cX6_agree 36 = .ok (.invokevirtual 92, 3) := by decide +kernel
theorem dX6_agree_39 : decode cX6_agree 39 = .ok (.if_icmp .ge 22, 3) := by decide +kernel
theorem dX6_agree_42 : decode cX6_agree 42 = .ok (.aload_n 0, 1) := by decide +kernel
theorem dX6_agree_43 : decode cX6_agree 43 = .ok (.iload 5, 2) := by decide +kernel
theorem dX6_agree_45 : decode cX6_agree 45 = .ok (.iload_n 3, 1) := by decide +kernel
theorem dX6_agree_46 : decode cX6_agree 46 = .ok (.invokevirtual 201, 3) := by decide +kernel
theorem dX6_agree_49 : decode cX6_agree 49 = .ok (.ifCond .eq 6, 3) := by decide +kernel
theorem dX6_agree_52 : decode cX6_agree 52 = .ok (.iinc 4 1, 3) := by decide +kernel
theorem dX6_agree_55 : decode cX6_agree 55 = .ok (.iinc 5 1, 3) := by decide +kernel
theorem dX6_agree_58 : decode cX6_agree 58 = .ok (.goto (-29), 3) := by decide +kernel
theorem dX6_agree_61 : decode cX6_agree 61 = .ok (.iload 4, 2) := by decide +kernel
theorem dX6_agree_63 : decode cX6_agree 63 = .ok (.ireturn, 1) := by decide +kernel
set_option maxRecDepth 20000 in
theorem ggX6_net_X6_netOf : GoodIn wsX6_net wsX6_netOf := goodIn_r _ [5, 6, 7, 8, 9, 10, 11, 12, 13, 14, 15, 16, 17, 18, 19, 20, 21, 22, 23, 24, 25, 26, 27, 28, 29, 30, 31, 32, 33, 34, 35, 36, 37, 38, 39, 40, 41, 42, 43, 44] (by decide +kernel) (by decide +kernel)
set_option maxRecDepth 20000 in
theorem gX6_net_X6_netOf : GoodIn wsX6_net (wsV RX6 204 RX6 yX6_netOf wsX6_netOf) := goodIn_app (goodIn_of _ (by decide +kernel)) ggX6_net_X6_netOf
theorem dX6_net_0 : decode cX6_net 0 = .ok (.iload_n 1, 1) := by decide +kernel
theorem dX6_net_1 : decode cX6_net 1 = .ok (.ifCond .lt 8, 3) := by decide +kernel
theorem dX6_net_4 : decode cX6_net 4 = .ok (.iload_n 1, 1) := by decide +kernel
theorem dX6_net_5 : decode cX6_net 5 = .ok (.iconst 4, 1) := by decide +kernel
theorem dX6_net_6 : decode cX6_net 6 = .ok (.if_icmp .lt 5, 3) := by decide +kernel
theorem dX6_net_9 : decode cX6_net 9 = .ok (.iconst (-1), 1) := by decide +kernel
theorem dX6_net_10 : decode cX6_net 10 = .ok (.ireturn, 1) := by decide +kernel
theorem dX6_net_11 : decode cX6_net 11 = .ok (.aload_n 0, 1) := by decide +kernel
theorem dX6_net_12 : decode cX6_net 12 = .ok (.iload_n 1, 1) := by decide +kernel
theorem dX6_net_13 : decode cX6_net 13 = .ok (.invokevirtual 204, 3) := by decide +kernel
theorem dX6_net_16 : decode cX6_net 16 = .ok (.bipush 100, 2) := by decide +kernel
theorem dX6_net_18 : decode cX6_net 18 = .ok (.iadd, 1) := by decide +kernel
theorem dX6_net_19 : decode cX6_net 19 = .ok (.ireturn, 1) := by decide +kernel
set_option maxRecDepth 20000 in
theorem ggX6_payings_X6_netOf : GoodIn wsX6_payings wsX6_netOf := goodIn_r _ [5, 6, 7, 8, 9, 10, 11, 12, 13, 14, 15, 16, 17, 18, 19, 20, 21, 22, 23, 24, 25, 26, 27, 28, 29, 30, 31, 32, 41, 42, 43, 44, 45, 46, 47, 48, 49, 50, 51, 52] (by decide +kernel) (by decide +kernel)
set_option maxRecDepth 20000 in
theorem gX6_payings_X6_netOf : GoodIn wsX6_payings (wsV RX6 204 RX6 yX6_netOf wsX6_netOf) := goodIn_app (goodIn_of _ (by decide +kernel)) ggX6_payings_X6_netOf
set_option maxRecDepth 20000 in
theorem ggX6_payings_X6_mostSets : GoodIn wsX6_payings wsX6_mostSets := goodIn_r _ [36, 37, 38, 39, 4, 40, 1, 2, 3, 5, 6, 7, 8, 9, 10, 11, 12, 13, 14, 15, 16, 17, 18, 19, 20, 21, 22, 23, 24, 25, 26, 27, 28, 29, 30, 31, 32, 41, 42, 43, 44, 45, 46, 47, 48, 49, 50, 51, 52] (by decide +kernel) (by decide +kernel)
set_option maxRecDepth 20000 in
theorem gX6_payings_X6_mostSets : GoodIn wsX6_payings (wsV RX6 207 RX6 yX6_mostSets wsX6_mostSets) := goodIn_app (goodIn_of _ (by decide +kernel)) ggX6_payings_X6_mostSets
theorem dX6_payings_0 : decode cX6_payings 0 = .ok (.iconst 0, 1) := by decide +kernel
theorem dX6_payings_1 : decode cX6_payings 1 = .ok (.istore_n 1, 1) := by decide +kernel
theorem dX6_payings_2 : decode cX6_payings 2 = .ok (.iconst 0, 1) := by decide +kernel
theorem dX6_payings_3 : decode cX6_payings 3 = .ok (.istore_n 2, 1) := by decide +kernel
theorem dX6_payings_4 : decode cX6_payings 4 = .ok (.iload_n 2, 1) := by decide +kernel
theorem dX6_payings_5 : decode cX6_payings 5 = .ok (.iconst 4, 1) := by decide +kernel
theorem dX6_payings_6 : decode cX6_payings 6 = .ok (.if_icmp .ge 20, 3) := by decide +kernel
theorem dX6_payings_9 : decode cX6_payings 9 = .ok (.aload_n 0, 1) := by decide +kernel
theorem dX6_payings_10 : decode cX6_payings 10 = .ok (.iload_n 2, 1) := by decide +kernel
theorem dX6_payings_11 : decode cX6_payings 11 = .ok (.invokevirtual 204, 3) := by decide +kernel
theorem dX6_payings_14 : decode cX6_payings 14 = .ok (.ifCond .eq 6, 3) := by decide +kernel
theorem dX6_payings_17 : decode cX6_payings 17 = .ok (.iinc 1 1, 3) := by decide +kernel
theorem dX6_payings_20 : decode cX6_payings 20 = .ok (.iinc 2 1, 3) := by decide +kernel
theorem dX6_payings_23 : decode cX6_payings 23 = .ok (.goto (-19), 3) := by decide +kernel
theorem dX6_payings_26 : decode cX6_payings 26 = .ok (.iload_n 1, 1) := by decide +kernel
theorem dX6_payings_27 : decode cX6_payings 27 = .ok (.aload_n 0, 1) := by decide +kernel
theorem dX6_payings_28 : decode cX6_payings 28 = .ok (.iload_n 1, 1) := by decide +kernel
theorem dX6_payings_29 : decode cX6_payings 29 = .ok (.invokevirtual 207, 3) := by decide +kernel
theorem dX6_payings_32 : decode cX6_payings 32 = .ok (.isub, 1) := by decide +kernel
theorem dX6_payings_33 : decode cX6_payings 33 = .ok (.ireturn, 1) := by decide +kernel
set_option maxRecDepth 20000 in
theorem ggX6_strike_X6_areBits : GoodIn wsX6_strike wsX6_areBits := goodIn_r _ [5] (by decide +kernel) (by decide +kernel)
set_option maxRecDepth 20000 in
theorem gX6_strike_X6_areBits : GoodIn wsX6_strike (va_wsS RX6 160 yX6_areBits wsX6_areBits) := goodIn_app (goodIn_of _ (by decide +kernel)) ggX6_strike_X6_areBits
set_option maxRecDepth 20000 in
theorem ggX6_strike_X6_isGap : GoodIn wsX6_strike wsX6_isGap := goodIn_r _ [8] (by decide +kernel) (by decide +kernel)
set_option maxRecDepth 20000 in
theorem gX6_strike_X6_isGap : GoodIn wsX6_strike (va_wsS RX6 210 yX6_isGap wsX6_isGap) := goodIn_app (goodIn_of _ (by decide +kernel)) ggX6_strike_X6_isGap
set_option maxRecDepth 20000 in
theorem ggX6_strike_X6_isZeroOrOne : GoodIn wsX6_strike wsX6_isZeroOrOne := goodIn_r _ [11] (by decide +kernel) (by decide +kernel)
set_option maxRecDepth 20000 in
theorem gX6_strike_X6_isZeroOrOne : GoodIn wsX6_strike (va_wsS RX6 164 yX6_isZeroOrOne wsX6_isZeroOrOne) := goodIn_app (goodIn_of _ (by decide +kernel)) ggX6_strike_X6_isZeroOrOne
set_option maxRecDepth 20000 in
theorem ggX6_strike_J6_bitCount_0f7a4 : GoodIn wsX6_strike wsJ6_bitCount_0f7a4 := goodIn_r _ [15, 16, 17, 18] (by decide +kernel) (by decide +kernel)
set_option maxRecDepth 20000 in
theorem gX6_strike_J6_bitCount_0f7a4 : GoodIn wsX6_strike (va_wsS RX6 167 yJ6_bitCount_0f7a4 wsJ6_bitCount_0f7a4) := goodIn_app (goodIn_of _ (by decide +kernel)) ggX6_strike_J6_bitCount_0f7a4
set_option maxRecDepth 20000 in
theorem ggX6_strike_X1_play : GoodIn wsX6_strike wsX1_play := goodIn_r _ [23, 24, 25, 26, 27, 22, 28, 29, 30, 13, 14, 15, 16, 17, 18, 31, 32, 33, 34, 35, 36, 37, 38, 39, 40, 41, 42, 43, 44, 63, 64, 65, 66] (by decide +kernel) (by decide +kernel)
set_option maxRecDepth 20000 in
theorem gX6_strike_X1_play : GoodIn wsX6_strike (wsV RX6 213 RX1 yX1_play wsX1_play) := goodIn_app (goodIn_of _ (by decide +kernel)) ggX6_strike_X1_play
set_option maxRecDepth 20000 in
theorem ggX6_strike_X1_lastLeft : GoodIn wsX6_strike wsX1_lastLeft := goodIn_r _ [48, 24, 40, 63, 64, 65, 66] (by decide +kernel) (by decide +kernel)
set_option maxRecDepth 20000 in
theorem gX6_strike_X1_lastLeft : GoodIn wsX6_strike (wsV RX6 217 RX1 yX1_lastLeft wsX1_lastLeft) := goodIn_app (goodIn_of _ (by decide +kernel)) ggX6_strike_X1_lastLeft
set_option maxRecDepth 20000 in
theorem ggX6_strike_X1_firstStruck : GoodIn wsX6_strike wsX1_firstStruck := goodIn_r _ [52, 39, 63, 64, 65, 66] (by decide +kernel) (by decide +kernel)
set_option maxRecDepth 20000 in
theorem gX6_strike_X1_firstStruck : GoodIn wsX6_strike (wsV RX6 220 RX1 yX1_firstStruck wsX1_firstStruck) := goodIn_app (goodIn_of _ (by decide +kernel)) ggX6_strike_X1_firstStruck
theorem dX6_strike_0 : decode cX6_strike 0 = .ok (.iload_n 1, 1) := by decide +kernel
theorem dX6_strike_1 : decode cX6_strike 1 = .ok (.bipush 13, 2) := by decide +kernel
theorem dX6_strike_3 : decode cX6_strike 3 = .ok (.invokestatic 160, 3) := by decide +kernel
theorem dX6_strike_6 : decode cX6_strike 6 = .ok (.ifCond .eq 25, 3) := by decide +kernel
theorem dX6_strike_9 : decode cX6_strike 9 = .ok (.iload_n 2, 1) := by decide +kernel
theorem dX6_strike_10 : decode cX6_strike 10 = .ok (.invokestatic 210, 3) := by decide +kernel
theorem dX6_strike_13 : decode cX6_strike 13 = .ok (.ifCond .eq 18, 3) := by decide +kernel
theorem dX6_strike_16 : decode cX6_strike 16 = .ok (.iload_n 3, 1) := by decide +kernel
theorem dX6_strike_17 : decode cX6_strike 17 = .ok (.invokestatic 210, 3) := by decide +kernel
theorem dX6_strike_20 : decode cX6_strike 20 = .ok (.ifCond .eq 11, 3) := by decide +kernel
theorem dX6_strike_23 : decode cX6_strike 23 = .ok (.iload 4, 2) := by decide +kernel
theorem dX6_strike_25 : decode cX6_strike 25 = .ok (.invokestatic 164, 3) := by decide +kernel
theorem dX6_strike_28 : decode cX6_strike 28 = .ok (.ifCond .ne 6, 3) := by decide +kernel
theorem dX6_strike_31 : decode cX6_strike 31 = .ok (.bipush (-2), 2) := by decide +kernel
theorem dX6_strike_33 : decode cX6_strike 33 = .ok (.ireturn, 1) := by decide +kernel
theorem dX6_strike_34 : decode cX6_strike 34 = .ok (.iload_n 1, 1) := by decide +kernel
theorem dX6_strike_35 : decode cX6_strike 35 = .ok (.invokestatic 167, 3) := by decide +kernel
theorem dX6_strike_38 : decode cX6_strike 38 = .ok (.istore 5, 2) := by decide +kernel
theorem dX6_strike_40 : decode cX6_strike 40 = .ok (.iload 5, 2) := by decide +kernel
theorem dX6_strike_42 : decode cX6_strike 42 = .ok (.iconst 2, 1) := by decide +kernel
theorem dX6_strike_43 : decode cX6_strike 43 = .ok (.if_icmp .lt 10, 3) := by decide +kernel
theorem dX6_strike_46 : decode cX6_strike 46 = .ok (.iload 5, 2) := by decide +kernel
theorem dX6_strike_48 : decode cX6_strike 48 = .ok (.bipush 6, 2) := by decide +kernel
theorem dX6_strike_50 : decode cX6_strike 50 = .ok (.if_icmp .le 6, 3) := by decide +kernel
theorem dX6_strike_53 : decode cX6_strike 53 = .ok (.bipush (-2), 2) := by decide +kernel
theorem dX6_strike_55 : decode cX6_strike 55 = .ok (.ireturn, 1) := by decide +kernel
theorem dX6_strike_56 : decode cX6_strike 56 = .ok (.aload_n 0, 1) := by decide +kernel
theorem dX6_strike_57 : decode cX6_strike 57 = .ok (.getfield 50, 3) := by decide +kernel
theorem dX6_strike_60 : decode cX6_strike 60 = .ok (.iload_n 1, 1) := by decide +kernel
theorem dX6_strike_61 : decode cX6_strike 61 = .ok (.iload_n 2, 1) := by decide +kernel
theorem dX6_strike_62 : decode cX6_strike 62 = .ok (.iload_n 3, 1) := by decide +kernel
theorem dX6_strike_63 : decode cX6_strike 63 = .ok (.invokevirtual 213, 3) := by decide +kernel
theorem dX6_strike_66 : decode cX6_strike 66 = .ok (.iload 4, 2) := by decide +kernel
theorem dX6_strike_68 : decode cX6_strike 68 = .ok (.ifCond .ne 13, 3) := by decide +kernel
theorem dX6_strike_71 : decode cX6_strike 71 = .ok (.aload_n 0, 1) := by decide +kernel
theorem dX6_strike_72 : decode cX6_strike 72 = .ok (.getfield 50, 3) := by decide +kernel
theorem dX6_strike_75 : decode cX6_strike 75 = .ok (.invokevirtual 217, 3) := by decide +kernel
theorem dX6_strike_78 : decode cX6_strike 78 = .ok (.goto 10, 3) := by decide +kernel
theorem dX6_strike_81 : decode cX6_strike 81 = .ok (.aload_n 0, 1) := by decide +kernel
theorem dX6_strike_82 : decode cX6_strike 82 = .ok (.getfield 50, 3) := by decide +kernel
theorem dX6_strike_85 : decode cX6_strike 85 = .ok (.invokevirtual 220, 3) := by decide +kernel
theorem dX6_strike_88 : decode cX6_strike 88 = .ok (.ireturn, 1) := by decide +kernel
set_option maxRecDepth 20000 in
theorem ggX6_rule_X6_areBits : GoodIn wsX6_rule wsX6_areBits := goodIn_r _ [4] (by decide +kernel) (by decide +kernel)
set_option maxRecDepth 20000 in
theorem gX6_rule_X6_areBits : GoodIn wsX6_rule (va_wsS RX6 160 yX6_areBits wsX6_areBits) := goodIn_app (goodIn_of _ (by decide +kernel)) ggX6_rule_X6_areBits
set_option maxRecDepth 20000 in
theorem ggX6_rule_X6_isZeroOrOne : GoodIn wsX6_rule wsX6_isZeroOrOne := goodIn_r _ [7] (by decide +kernel) (by decide +kernel)
set_option maxRecDepth 20000 in
theorem gX6_rule_X6_isZeroOrOne : GoodIn wsX6_rule (va_wsS RX6 164 yX6_isZeroOrOne wsX6_isZeroOrOne) := goodIn_app (goodIn_of _ (by decide +kernel)) ggX6_rule_X6_isZeroOrOne
set_option maxRecDepth 20000 in
theorem ggX6_rule_X6_yearsBy : GoodIn wsX6_rule wsX6_yearsBy := goodIn_r _ [10] (by decide +kernel) (by decide +kernel)
set_option maxRecDepth 20000 in
theorem gX6_rule_X6_yearsBy : GoodIn wsX6_rule (va_wsS RX6 223 yX6_yearsBy wsX6_yearsBy) := goodIn_app (goodIn_of _ (by decide +kernel)) ggX6_rule_X6_yearsBy
theorem dX6_rule_0 : decode cX6_rule 0 = .ok (.iload_n 1, 1) := by decide +kernel
theorem dX6_rule_1 : decode cX6_rule 1 = .ok (.iconst 1, 1) := by decide +kernel
theorem dX6_rule_2 : decode cX6_rule 2 = .ok (.if_icmp .lt 24, 3) := by decide +kernel
theorem dX6_rule_5 : decode cX6_rule 5 = .ok (.iload_n 1, 1) := by decide +kernel
theorem dX6_rule_6 : decode cX6_rule 6 = .ok (.bipush 10, 2) := by decide +kernel
theorem dX6_rule_8 : decode cX6_rule 8 = .ok (.if_icmp .gt 18, 3) := by decide +kernel
theorem dX6_rule_11 : decode cX6_rule 11 = .ok (.iload_n 2, 1) := by decide +kernel
theorem dX6_rule_12 : decode cX6_rule 12 = .ok (.iload_n 1, 1) := by decide +kernel
theorem dX6_rule_13 : decode cX6_rule 13 = .ok (.invokestatic 160, 3) := by decide +kernel
theorem dX6_rule_16 : decode cX6_rule 16 = .ok (.ifCond .eq 10, 3) := by decide +kernel
theorem dX6_rule_19 : decode cX6_rule 19 = .ok (.iload_n 3, 1) := by decide +kernel
theorem dX6_rule_20 : decode cX6_rule 20 = .ok (.invokestatic 164, 3) := by decide +kernel
theorem dX6_rule_23 : decode cX6_rule 23 = .ok (.ifCond .ne 6, 3) := by decide +kernel
theorem dX6_rule_26 : decode cX6_rule 26 = .ok (.bipush (-2), 2) := by decide +kernel
theorem dX6_rule_28 : decode cX6_rule 28 = .ok (.ireturn, 1) := by decide +kernel
theorem dX6_rule_29 : decode cX6_rule 29 = .ok (.iload_n 2, 1) := by decide +kernel
theorem dX6_rule_30 : decode cX6_rule 30 = .ok (.ifCond .ne 5, 3) := by decide +kernel
theorem dX6_rule_33 : decode cX6_rule 33 = .ok (.iconst 0, 1) := by decide +kernel
theorem dX6_rule_34 : decode cX6_rule 34 = .ok (.ireturn, 1) := by decide +kernel
theorem dX6_rule_35 : decode cX6_rule 35 = .ok (.iconst 1, 1) := by decide +kernel
theorem dX6_rule_36 : decode cX6_rule 36 = .ok (.istore 4, 2) := by decide +kernel
theorem dX6_rule_38 : decode cX6_rule 38 = .ok (.iload 4, 2) := by decide +kernel
theorem dX6_rule_40 : decode cX6_rule 40 = .ok (.bipush 10, 2) := by decide +kernel
theorem dX6_rule_42 : decode cX6_rule 42 = .ok (.if_icmp .gt 49, 3) := by decide +kernel
theorem dX6_rule_45 : decode cX6_rule 45 = .ok (.iconst 0, 1) := by decide +kernel
theorem dX6_rule_46 : decode cX6_rule 46 = .ok (.istore 5, 2) := by decide +kernel
theorem dX6_rule_48 : decode cX6_rule 48 = .ok (.iload 5, 2) := by decide +kernel
theorem dX6_rule_50 : decode cX6_rule 50 = .ok (.iload 4, 2) := by decide +kernel
theorem dX6_rule_52 : decode cX6_rule 52 = .ok (.if_icmp .ge 33, 3) := by decide +kernel
theorem dX6_rule_55 : decode cX6_rule 55 = .ok (.iload_n 1, 1) := by decide +kernel
theorem dX6_rule_56 : decode cX6_rule 56 = .ok (.iload 4, 2) := by decide +kernel
theorem dX6_rule_58 : decode cX6_rule 58 = .ok (.iload 5, 2) := by decide +kernel
theorem dX6_rule_60 : decode cX6_rule 60 = .ok (.invokestatic 223, 3) := by decide +kernel
theorem dX6_rule_63 : decode cX6_rule 63 = .ok (.iload_n 2, 1) := by decide +kernel
theorem dX6_rule_64 : decode cX6_rule 64 = .ok (.if_icmp .ne 15, 3) := by decide +kernel
theorem dX6_rule_67 : decode cX6_rule 67 = .ok (.iload_n 3, 1) := by decide +kernel
theorem dX6_rule_68 : decode cX6_rule 68 = .ok (.ifCond .ne 8, 3) := by decide +kernel
theorem dX6_rule_71 : decode cX6_rule 71 = .ok (.iload 4, 2) := by decide +kernel
theorem dX6_rule_73 : decode cX6_rule 73 = .ok (.goto 5, 3) := by decide +kernel
theorem dX6_rule_76 : decode cX6_rule 76 = .ok (.iload 5, 2) := by decide +kernel
theorem dX6_rule_78 : decode cX6_rule 78 = .ok (.ireturn, 1) := by decide +kernel
theorem dX6_rule_79 : decode cX6_rule 79 = .ok (.iinc 5 1, 3) := by decide +kernel
theorem dX6_rule_82 : decode cX6_rule 82 = .ok (.goto (-34), 3) := by decide +kernel
theorem dX6_rule_85 : decode cX6_rule 85 = .ok (.iinc 4 1, 3) := by decide +kernel
theorem dX6_rule_88 : decode cX6_rule 88 = .ok (.goto (-50), 3) := by decide +kernel
theorem dX6_rule_91 : decode cX6_rule 91 = .ok (.bipush (-9), 2) := by decide +kernel
theorem dX6_rule_93 : decode cX6_rule 93 = .ok (.ireturn, 1) := by decide +kernel
set_option maxRecDepth 20000 in
theorem ggX6_slips_X6_choices : GoodIn wsX6_slips wsX6_choices := goodIn_r _ [4] (by decide +kernel) (by decide +kernel)
set_option maxRecDepth 20000 in
theorem gX6_slips_X6_choices : GoodIn wsX6_slips (va_wsS RX6 227 yX6_choices wsX6_choices) := goodIn_app (goodIn_of _ (by decide +kernel)) ggX6_slips_X6_choices
set_option maxRecDepth 20000 in
theorem ggX6_slips_X6_power : GoodIn wsX6_slips wsX6_power := goodIn_r _ [7] (by decide +kernel) (by decide +kernel)
set_option maxRecDepth 20000 in
theorem gX6_slips_X6_power : GoodIn wsX6_slips (va_wsS RX6 230 yX6_power wsX6_power) := goodIn_app (goodIn_of _ (by decide +kernel)) ggX6_slips_X6_power
theorem dX6_slips_0 : decode cX6_slips 0 = .ok (.iload_n 1, 1) := by decide +kernel
theorem dX6_slips_1 : decode cX6_slips 1 = .ok (.iconst 1, 1) := by decide +kernel
theorem dX6_slips_2 : decode cX6_slips 2 = .ok (.if_icmp .lt 28, 3) := by decide +kernel
theorem dX6_slips_5 : decode cX6_slips 5 = .ok (.iload_n 1, 1) := by decide +kernel
theorem dX6_slips_6 : decode cX6_slips 6 = .ok (.bipush 6, 2) := by decide +kernel
theorem dX6_slips_8 : decode cX6_slips 8 = .ok (.if_icmp .gt 22, 3) := by decide +kernel
theorem dX6_slips_11 : decode cX6_slips 11 = .ok (.iload_n 2, 1) := by decide +kernel
theorem dX6_slips_12 : decode cX6_slips 12 = .ok (.ifCond .lt 18, 3) := by decide +kernel
theorem dX6_slips_15 : decode cX6_slips 15 = .ok (.iload_n 2, 1) := by decide +kernel
theorem dX6_slips_16 : decode cX6_slips 16 = .ok (.iload_n 1, 1) := by decide +kernel
theorem dX6_slips_17 : decode cX6_slips 17 = .ok (.if_icmp .gt 13, 3) := by decide +kernel
theorem dX6_slips_20 : decode cX6_slips 20 = .ok (.iload_n 3, 1) := by decide +kernel
theorem dX6_slips_21 : decode cX6_slips 21 = .ok (.ifCond .lt 9, 3) := by decide +kernel
theorem dX6_slips_24 : decode cX6_slips 24 = .ok (.iload_n 3, 1) := by decide +kernel
theorem dX6_slips_25 : decode cX6_slips 25 = .ok (.bipush 10, 2) := by decide +kernel
theorem dX6_slips_27 : decode cX6_slips 27 = .ok (.if_icmp .le 6, 3) := by decide +kernel
theorem dX6_slips_30 : decode cX6_slips 30 = .ok (.bipush (-2), 2) := by decide +kernel
theorem dX6_slips_32 : decode cX6_slips 32 = .ok (.ireturn, 1) := by decide +kernel
theorem dX6_slips_33 : decode cX6_slips 33 = .ok (.iload_n 1, 1) := by decide +kernel
theorem dX6_slips_34 : decode cX6_slips 34 = .ok (.iload_n 2, 1) := by decide +kernel
theorem dX6_slips_35 : decode cX6_slips 35 = .ok (.invokestatic 227, 3) := by decide +kernel
theorem dX6_slips_38 : decode cX6_slips 38 = .ok (.iload_n 3, 1) := by decide +kernel
theorem dX6_slips_39 : decode cX6_slips 39 = .ok (.iload_n 2, 1) := by decide +kernel
theorem dX6_slips_40 : decode cX6_slips 40 = .ok (.invokestatic 230, 3) := by decide +kernel
theorem dX6_slips_43 : decode cX6_slips 43 = .ok (.imul, 1) := by decide +kernel
theorem dX6_slips_44 : decode cX6_slips 44 = .ok (.bipush 10, 2) := by decide +kernel
theorem dX6_slips_46 : decode cX6_slips 46 = .ok (.iload_n 3, 1) := by decide +kernel
theorem dX6_slips_47 : decode cX6_slips 47 = .ok (.isub, 1) := by decide +kernel
theorem dX6_slips_48 : decode cX6_slips 48 = .ok (.iload_n 1, 1) := by decide +kernel
theorem dX6_slips_49 : decode cX6_slips 49 = .ok (.iload_n 2, 1) := by decide +kernel
theorem dX6_slips_50 : decode cX6_slips 50 = .ok (.isub, 1) := by decide +kernel
theorem dX6_slips_51 : decode cX6_slips 51 = .ok (.invokestatic 230, 3) := by decide +kernel
theorem dX6_slips_54 : decode cX6_slips 54 = .ok (.imul, 1) := by decide +kernel
theorem dX6_slips_55 : decode cX6_slips 55 = .ok (.istore 5, 2) := by decide +kernel
theorem dX6_slips_57 : decode cX6_slips 57 = .ok (.bipush 10, 2) := by decide +kernel
theorem dX6_slips_59 : decode cX6_slips 59 = .ok (.iload_n 1, 1) := by decide +kernel
theorem dX6_slips_60 : decode cX6_slips 60 = .ok (.invokestatic 230, 3) := by decide +kernel
theorem dX6_slips_63 : decode cX6_slips 63 = .ok (.istore 6, 2) := by decide +kernel
theorem dX6_slips_65 : decode cX6_slips 65 = .ok (.iconst 0, 1) := by decide +kernel
theorem dX6_slips_66 : decode cX6_slips 66 = .ok (.istore 7, 2) := by decide +kernel
theorem dX6_slips_68 : decode cX6_slips 68 = .ok (.iload 7, 2) := by decide +kernel
theorem dX6_slips_70 : decode cX6_slips 70 = .ok (.iload_n 1, 1) := by decide +kernel
theorem dX6_slips_71 : decode cX6_slips 71 = .ok (.if_icmp .ge 47, 3) := by decide +kernel
theorem dX6_slips_74 : decode cX6_slips 74 = .ok (.iload 5, 2) := by decide +kernel
theorem dX6_slips_76 : decode cX6_slips 76 = .ok (.iconst 2, 1) := by decide +kernel
theorem dX6_slips_77 : decode cX6_slips 77 = .ok (.irem, 1) := by decide +kernel
theorem dX6_slips_78 : decode cX6_slips 78 = .ok (.ifCond .ne 15, 3) := by decide +kernel
theorem dX6_slips_81 : decode cX6_slips 81 = .ok (.iload 5, 2) := by decide +kernel
theorem dX6_slips_83 : decode cX6_slips 83 = .ok (.iconst 2, 1) := by decide +kernel
theorem dX6_slips_84 : decode cX6_slips 84 = .ok (.idiv, 1) := by decide +kernel
theorem dX6_slips_85 : decode cX6_slips 85 = .ok (.istore 5, 2) := by decide +kernel
theorem dX6_slips_87 : decode cX6_slips 87 = .ok (.iload 6, 2) := by decide +kernel
theorem dX6_slips_89 : decode cX6_slips 89 = .ok (.iconst 2, 1) := by decide +kernel
theorem dX6_slips_90 : decode cX6_slips 90 = .ok (.idiv, 1) := by decide +kernel
theorem dX6_slips_91 : decode cX6_slips 91 = .ok (.istore 6, 2) := by decide +kernel
theorem dX6_slips_93 : decode cX6_slips 93 = .ok (.iload 5, 2) := by decide +kernel
theorem dX6_slips_95 : decode cX6_slips 95 = .ok (.iconst 5, 1) := by decide +kernel
theorem dX6_slips_96 : decode cX6_slips 96 = .ok (.irem, 1) := by decide +kernel
theorem dX6_slips_97 : decode cX6_slips 97 = .ok (.ifCond .ne 15, 3) := by decide +kernel
theorem dX6_slips_100 : decode cX6_slips 100 = .ok (.iload 5, 2) := by decide +kernel
theorem dX6_slips_102 : decode cX6_slips 102 = .ok (.iconst 5, 1) := by decide +kernel
theorem dX6_slips_103 : decode cX6_slips 103 = .ok (.idiv, 1) := by decide +kernel
theorem dX6_slips_104 : decode cX6_slips 104 = .ok (.istore 5, 2) := by decide +kernel
theorem dX6_slips_106 : decode cX6_slips 106 = .ok (.iload 6, 2) := by decide +kernel
theorem dX6_slips_108 : decode cX6_slips 108 = .ok (.iconst 5, 1) := by decide +kernel
theorem dX6_slips_109 : decode cX6_slips 109 = .ok (.idiv, 1) := by decide +kernel
theorem dX6_slips_110 : decode cX6_slips 110 = .ok (.istore 6, 2) := by decide +kernel
theorem dX6_slips_112 : decode cX6_slips 112 = .ok (.iinc 7 1, 3) := by decide +kernel
theorem dX6_slips_115 : decode cX6_slips 115 = .ok (.goto (-47), 3) := by decide +kernel
theorem dX6_slips_118 : decode cX6_slips 118 = .ok (.iload 4, 2) := by decide +kernel
theorem dX6_slips_120 : decode cX6_slips 120 = .ok (.ifCond .eq 8, 3) := by decide +kernel
theorem dX6_slips_123 : decode cX6_slips 123 = .ok (.iload 5, 2) := by decide +kernel
theorem dX6_slips_125 : decode cX6_slips 125 = .ok (.goto 5, 3) := by decide +kernel
theorem dX6_slips_128 : decode cX6_slips 128 = .ok (.iload 6, 2) := by decide +kernel
theorem dX6_slips_130 : decode cX6_slips 130 = .ok (.ireturn, 1) := by decide +kernel
theorem dX6_seed_0 : decode cX6_seed 0 = .ok (.aload_n 0, 1) := by decide +kernel
theorem dX6_seed_1 : decode cX6_seed 1 = .ok (.getfield 62, 3) := by decide +kernel
theorem dX6_seed_4 : decode cX6_seed 4 = .ok (.lstore_n 3, 1) := by decide +kernel
theorem dX6_seed_5 : decode cX6_seed 5 = .ok (.aload_n 0, 1) := by decide +kernel
theorem dX6_seed_6 : decode cX6_seed 6 = .ok (.lload_n 1, 1) := by decide +kernel
theorem dX6_seed_7 : decode cX6_seed 7 = .ok (.putfield 62, 3) := by decide +kernel
theorem dX6_seed_10 : decode cX6_seed 10 = .ok (.lload_n 3, 1) := by decide +kernel
theorem dX6_seed_11 : decode cX6_seed 11 = .ok (.lreturn, 1) := by decide +kernel
set_option maxRecDepth 20000 in
theorem ggX6_years_X6_brokenAt : GoodIn wsX6_years wsX6_brokenAt := goodIn_r _ [9, 10, 11, 12, 13, 14, 15, 16, 17, 18, 19, 20, 21, 22, 23, 24, 25, 26, 8, 27, 28, 29, 30, 31, 32, 33, 34, 35, 36, 37, 38, 39, 40, 41, 42, 43, 44, 45, 46, 47, 48, 49, 50, 51, 52, 53, 54, 55, 56, 57, 58, 59, 60, 61, 62, 63, 71, 72, 73, 74, 75, 76, 77, 78, 79, 80, 81, 82, 83, 84, 85] (by decide +kernel) (by decide +kernel)
set_option maxRecDepth 20000 in
theorem gX6_years_X6_brokenAt : GoodIn wsX6_years (wsV RX6 105 RX6 yX6_brokenAt wsX6_brokenAt) := goodIn_app (goodIn_of _ (by decide +kernel)) ggX6_years_X6_brokenAt
set_option maxRecDepth 20000 in
theorem ggX6_years_J6_bitCount_0f7a4 : GoodIn wsX6_years wsJ6_bitCount_0f7a4 := goodIn_r _ [67, 68, 69, 70] (by decide +kernel) (by decide +kernel)
set_option maxRecDepth 20000 in
theorem gX6_years_J6_bitCount_0f7a4 : GoodIn wsX6_years (va_wsS RX6 167 yJ6_bitCount_0f7a4 wsJ6_bitCount_0f7a4) := goodIn_app (goodIn_of _ (by decide +kernel)) ggX6_years_J6_bitCount_0f7a4
theorem dX6_years_0 : decode cX6_years 0 = .ok (.iload_n 1, 1) := by decide +kernel
theorem dX6_years_1 : decode cX6_years 1 = .ok (.iconst 1, 1) := by decide +kernel
theorem dX6_years_2 : decode cX6_years 2 = .ok (.if_icmp .lt 9, 3) := by decide +kernel
theorem dX6_years_5 : decode cX6_years 5 = .ok (.iload_n 1, 1) := by decide +kernel
theorem dX6_years_6 : decode cX6_years 6 = .ok (.bipush 40, 2) := by decide +kernel
theorem dX6_years_8 : decode cX6_years 8 = .ok (.if_icmp .le 6, 3) := by decide +kernel
theorem dX6_years_11 : decode cX6_years 11 = .ok (.bipush (-2), 2) := by decide +kernel
theorem dX6_years_13 : decode cX6_years 13 = .ok (.ireturn, 1) := by decide +kernel
theorem dX6_years_14 : decode cX6_years 14 = .ok (.iconst 0, 1) := by decide +kernel
theorem dX6_years_15 : decode cX6_years 15 = .ok (.istore_n 2, 1) := by decide +kernel
theorem dX6_years_16 : decode cX6_years 16 = .ok (.iconst 0, 1) := by decide +kernel
theorem dX6_years_17 : decode cX6_years 17 = .ok (.istore_n 3, 1) := by decide +kernel
theorem dX6_years_18 : decode cX6_years 18 = .ok (.iload_n 3, 1) := by decide +kernel
theorem dX6_years_19 : decode cX6_years 19 = .ok (.iload_n 1, 1) := by decide +kernel
theorem dX6_years_20 : decode cX6_years 20 = .ok (.if_icmp .ge 51, 3) := by decide +kernel
theorem dX6_years_23 : decode cX6_years 23 = .ok (.aload_n 0, 1) := by decide +kernel
theorem dX6_years_24 : decode cX6_years 24 = .ok (.aload_n 0, 1) := by decide +kernel
theorem dX6_years_25 : decode cX6_years 25 = .ok (.getfield 62, 3) := by decide +kernel
theorem dX6_years_28 : decode cX6_years 28 = .ok (.ldc2_w 233, 3) := by decide +kernel
theorem dX6_years_31 : decode cX6_years 31 = .ok (.lmul, 1) := by decide +kernel
theorem dX6_years_32 : decode cX6_years 32 = .ok (.ldc2_w 235, 3) := by decide +kernel
theorem dX6_years_35 : decode cX6_years 35 = .ok (.ladd, 1) := by decide +kernel
theorem dX6_years_36 : decode cX6_years 36 = .ok (.putfield 62, 3) := by decide +kernel
theorem dX6_years_39 : decode cX6_years 39 = .ok (.aload_n 0, 1) := by decide +kernel
theorem dX6_years_40 : decode cX6_years 40 = .ok (.getfield 62, 3) := by decide +kernel
theorem dX6_years_43 : decode cX6_years 43 = .ok (.bipush 33, 2) := by decide +kernel
theorem dX6_years_45 : decode cX6_years 45 = .ok (.lushr, 1) := by decide +kernel
theorem dX6_years_46 : decode cX6_years 46 = .ok (.ldc2_w 237, 3) := by decide +kernel
theorem dX6_years_49 : decode cX6_years 49 = .ok (.lrem, 1) := by decide +kernel
theorem dX6_years_50 : decode cX6_years 50 = .ok (.l2i, 1) := by decide +kernel
theorem dX6_years_51 : decode cX6_years 51 = .ok (.istore 4, 2) := by decide +kernel
theorem dX6_years_53 : decode cX6_years 53 = .ok (.iload_n 2, 1) := by decide +kernel
theorem dX6_years_54 : decode cX6_years 54 = .ok (.aload_n 0, 1) := by decide +kernel
theorem dX6_years_55 : decode cX6_years 55 = .ok (.iload 4, 2) := by decide +kernel
theorem dX6_years_57 : decode cX6_years 57 = .ok (.invokevirtual 105, 3) := by decide +kernel
theorem dX6_years_60 : decode cX6_years 60 = .ok (.invokestatic 167, 3) := by decide +kernel
theorem dX6_years_63 : decode cX6_years 63 = .ok (.iadd, 1) := by decide +kernel
theorem dX6_years_64 : decode cX6_years 64 = .ok (.istore_n 2, 1) := by decide +kernel
theorem dX6_years_65 : decode cX6_years 65 = .ok (.iinc 3 1, 3) := by decide +kernel
theorem dX6_years_68 : decode cX6_years 68 = .ok (.goto (-50), 3) := by decide +kernel
theorem dX6_years_71 : decode cX6_years 71 = .ok (.iload_n 2, 1) := by decide +kernel
theorem dX6_years_72 : decode cX6_years 72 = .ok (.ireturn, 1) := by decide +kernel
set_option maxRecDepth 20000 in
theorem ggX6_keep_X3_copyFrom : GoodIn wsX6_keep wsX3_copyFrom := goodIn_r _ [8, 9, 10, 11, 88, 89, 90] (by decide +kernel) (by decide +kernel)
set_option maxRecDepth 20000 in
theorem gX6_keep_X3_copyFrom : GoodIn wsX6_keep (wsV RX6 239 RX3 yX3_copyFrom wsX3_copyFrom) := goodIn_app (goodIn_of _ (by decide +kernel)) ggX6_keep_X3_copyFrom
set_option maxRecDepth 20000 in
theorem ggX6_keep_X6_brokenNow : GoodIn wsX6_keep wsX6_brokenNow := goodIn_r _ [16, 2, 17, 18, 19, 15, 20, 21, 22, 23, 24, 25, 26, 27, 28, 29, 30, 7, 31, 10, 32, 33, 34, 35, 36, 37, 38, 39, 11, 40, 41, 42, 43, 44, 45, 46, 47, 48, 49, 50, 51, 52, 53, 54, 55, 56, 57, 58, 59, 60, 61, 62, 63, 64, 65, 66, 67, 68, 69, 70, 71, 72, 73, 74, 75, 76, 77, 78, 79, 80, 81, 82, 83, 84, 85, 86, 87, 88, 89, 90, 91, 92] (by decide +kernel) (by decide +kernel)
set_option maxRecDepth 20000 in
theorem gX6_keep_X6_brokenNow : GoodIn wsX6_keep (wsV RX6 243 RX6 yX6_brokenNow wsX6_brokenNow) := goodIn_app (goodIn_of _ (by decide +kernel)) ggX6_keep_X6_brokenNow
theorem dX6_keep_0 : decode cX6_keep 0 = .ok (.iload_n 1, 1) := by decide +kernel
theorem dX6_keep_1 : decode cX6_keep 1 = .ok (.ifCond .lt 8, 3) := by decide +kernel
theorem dX6_keep_4 : decode cX6_keep 4 = .ok (.iload_n 1, 1) := by decide +kernel
theorem dX6_keep_5 : decode cX6_keep 5 = .ok (.iconst 2, 1) := by decide +kernel
theorem dX6_keep_6 : decode cX6_keep 6 = .ok (.if_icmp .lt 5, 3) := by decide +kernel
theorem dX6_keep_9 : decode cX6_keep 9 = .ok (.iconst (-1), 1) := by decide +kernel
theorem dX6_keep_10 : decode cX6_keep 10 = .ok (.ireturn, 1) := by decide +kernel
theorem dX6_keep_11 : decode cX6_keep 11 = .ok (.aload_n 0, 1) := by decide +kernel
theorem dX6_keep_12 : decode cX6_keep 12 = .ok (.getfield 54, 3) := by decide +kernel
theorem dX6_keep_15 : decode cX6_keep 15 = .ok (.iload_n 1, 1) := by decide +kernel
theorem dX6_keep_16 : decode cX6_keep 16 = .ok (.aaload, 1) := by decide +kernel
theorem dX6_keep_17 : decode cX6_keep 17 = .ok (.aload_n 0, 1) := by decide +kernel
theorem dX6_keep_18 : decode cX6_keep 18 = .ok (.getfield 29, 3) := by decide +kernel
theorem dX6_keep_21 : decode cX6_keep 21 = .ok (.invokevirtual 239, 3) := by decide +kernel
theorem dX6_keep_24 : decode cX6_keep 24 = .ok (.aload_n 0, 1) := by decide +kernel
theorem dX6_keep_25 : decode cX6_keep 25 = .ok (.dup, 1) := by decide +kernel
theorem dX6_keep_26 : decode cX6_keep 26 = .ok (.getfield 58, 3) := by decide +kernel
theorem dX6_keep_29 : decode cX6_keep 29 = .ok (.iconst 1, 1) := by decide +kernel
theorem dX6_keep_30 : decode cX6_keep 30 = .ok (.iload_n 1, 1) := by decide +kernel
theorem dX6_keep_31 : decode cX6_keep 31 = .ok (.ishl, 1) := by decide +kernel
theorem dX6_keep_32 : decode cX6_keep 32 = .ok (.ior, 1) := by decide +kernel
theorem dX6_keep_33 : decode cX6_keep 33 = .ok (.putfield 58, 3) := by decide +kernel
theorem dX6_keep_36 : decode cX6_keep 36 = .ok (.aload_n 0, 1) := by decide +kernel
theorem dX6_keep_37 : decode cX6_keep 37 = .ok (.invokevirtual 243, 3) := by decide +kernel
theorem dX6_keep_40 : decode cX6_keep 40 = .ok (.ireturn, 1) := by decide +kernel
set_option maxRecDepth 20000 in
theorem ggX6_again_X3_copyFrom : GoodIn wsX6_again wsX3_copyFrom := goodIn_r _ [9, 10, 11, 12, 95, 96, 97] (by decide +kernel) (by decide +kernel)
set_option maxRecDepth 20000 in
theorem gX6_again_X3_copyFrom : GoodIn wsX6_again (wsV RX6 239 RX3 yX3_copyFrom wsX3_copyFrom) := goodIn_app (goodIn_of _ (by decide +kernel)) ggX6_again_X3_copyFrom
set_option maxRecDepth 20000 in
theorem ggX6_again_X0_clear : GoodIn wsX6_again wsX0_clear := goodIn_r _ [17, 18, 98, 99, 100] (by decide +kernel) (by decide +kernel)
set_option maxRecDepth 20000 in
theorem gX6_again_X0_clear : GoodIn wsX6_again (wsV RX6 91 RX0 yX0_clear wsX0_clear) := goodIn_app (goodIn_of _ (by decide +kernel)) ggX6_again_X0_clear
set_option maxRecDepth 20000 in
theorem ggX6_again_X6_brokenNow : GoodIn wsX6_again wsX6_brokenNow := goodIn_r _ [23, 2, 24, 25, 26, 22, 27, 28, 29, 30, 31, 32, 33, 34, 35, 36, 37, 8, 38, 11, 39, 40, 41, 42, 43, 44, 45, 46, 12, 47, 48, 49, 50, 51, 52, 53, 54, 55, 56, 57, 58, 59, 60, 61, 62, 63, 64, 65, 66, 67, 68, 69, 70, 71, 72, 73, 74, 75, 76, 77, 78, 79, 80, 81, 82, 83, 84, 85, 86, 87, 88, 89, 90, 91, 92, 93, 94, 95, 96, 97, 101, 102] (by decide +kernel) (by decide +kernel)
set_option maxRecDepth 20000 in
theorem gX6_again_X6_brokenNow : GoodIn wsX6_again (wsV RX6 243 RX6 yX6_brokenNow wsX6_brokenNow) := goodIn_app (goodIn_of _ (by decide +kernel)) ggX6_again_X6_brokenNow
theorem dX6_again_0 : decode cX6_again 0 = .ok (.iload_n 1, 1) := by decide +kernel
theorem dX6_again_1 : decode cX6_again 1 = .ok (.ifCond .lt 8, 3) := by decide +kernel
theorem dX6_again_4 : decode cX6_again 4 = .ok (.iload_n 1, 1) := by decide +kernel
theorem dX6_again_5 : decode cX6_again 5 = .ok (.iconst 2, 1) := by decide +kernel
theorem dX6_again_6 : decode cX6_again 6 = .ok (.if_icmp .lt 5, 3) := by decide +kernel
theorem dX6_again_9 : decode cX6_again 9 = .ok (.iconst (-1), 1) := by decide +kernel
theorem dX6_again_10 : decode cX6_again 10 = .ok (.ireturn, 1) := by decide +kernel
theorem dX6_again_11 : decode cX6_again 11 = .ok (.aload_n 0, 1) := by decide +kernel
theorem dX6_again_12 : decode cX6_again 12 = .ok (.getfield 58, 3) := by decide +kernel
theorem dX6_again_15 : decode cX6_again 15 = .ok (.iload_n 1, 1) := by decide +kernel
theorem dX6_again_16 : decode cX6_again 16 = .ok (.ishr, 1) := by decide +kernel
theorem dX6_again_17 : decode cX6_again 17 = .ok (.iconst 1, 1) := by decide +kernel
theorem dX6_again_18 : decode cX6_again 18 = .ok (.iand, 1) := by decide +kernel
theorem dX6_again_19 : decode cX6_again 19 = .ok (.ifCond .ne 6, 3) := by decide +kernel
theorem dX6_again_22 : decode cX6_again 22 = .ok (.bipush (-3), 2) := by decide +kernel
theorem dX6_again_24 : decode cX6_again 24 = .ok (.ireturn, 1) := by decide +kernel
theorem dX6_again_25 : decode cX6_again 25 = .ok (.aload_n 0, 1) := by decide +kernel
theorem dX6_again_26 : decode cX6_again 26 = .ok (.getfield 29, 3) := by decide +kernel
theorem dX6_again_29 : decode cX6_again 29 = .ok (.aload_n 0, 1) := by decide +kernel
theorem dX6_again_30 : decode cX6_again 30 = .ok (.getfield 54, 3) := by decide +kernel
theorem dX6_again_33 : decode cX6_again 33 = .ok (.iload_n 1, 1) := by decide +kernel
theorem dX6_again_34 : decode cX6_again 34 = .ok (.aaload, 1) := by decide +kernel
theorem dX6_again_35 : decode cX6_again 35 = .ok (.invokevirtual 239, 3) := by decide +kernel
theorem dX6_again_38 : decode cX6_again 38 = .ok (.aload_n 0, 1) := by decide +kernel
theorem dX6_again_39 : decode cX6_again 39 = .ok (.getfield 36, 3) := by decide +kernel
theorem dX6_again_42 : decode cX6_again 42 = .ok (.invokevirtual 91, 3) := by decide +kernel
theorem dX6_again_45 : decode cX6_again 45 = .ok (.aload_n 0, 1) := by decide +kernel
theorem dX6_again_46 : decode cX6_again 46 = .ok (.invokevirtual 243, 3) := by decide +kernel
theorem dX6_again_49 : decode cX6_again 49 = .ok (.ireturn, 1) := by decide +kernel
set_option maxRecDepth 20000 in
theorem ggX6_isContract_X5_sizeOf : GoodIn wsX6_isContract wsX5_sizeOf := goodIn_r _ [6, 7, 18, 19] (by decide +kernel) (by decide +kernel)
set_option maxRecDepth 20000 in
theorem gX6_isContract_X5_sizeOf : GoodIn wsX6_isContract (wsV RX6 92 RX5 yX5_sizeOf wsX5_sizeOf) := goodIn_app (goodIn_of _ (by decide +kernel)) ggX6_isContract_X5_sizeOf
theorem dX6_isContract_0 : decode cX6_isContract 0 = .ok (.iload_n 1, 1) := by decide +kernel
theorem dX6_isContract_1 : decode cX6_isContract 1 = .ok (.ifCond .lt 19, 3) := by decide +kernel
theorem dX6_isContract_4 : decode cX6_isContract 4 = .ok (.iload_n 1, 1) := by decide +kernel
theorem dX6_isContract_5 : decode cX6_isContract 5 = .ok (.aload_n 0, 1) := by decide +kernel
theorem dX6_isContract_6 : decode cX6_isContract 6 = .ok (.getfield 19, 3) := by decide +kernel
theorem dX6_isContract_9 : decode cX6_isContract 9 = .ok (.iconst 0, 1) := by decide +kernel
theorem dX6_isContract_10 : decode cX6_isContract 10 = .ok (.invokevirtual 92, 3) := by decide +kernel
theorem dX6_isContract_13 : decode cX6_isContract 13 = .ok (.if_icmp .ge 7, 3) := by decide +kernel
theorem dX6_isContract_16 : decode cX6_isContract 16 = .ok (.iconst 1, 1) := by decide +kernel
theorem dX6_isContract_17 : decode cX6_isContract 17 = .ok (.goto 4, 3) := by decide +kernel
theorem dX6_isContract_20 : decode cX6_isContract 20 = .ok (.iconst 0, 1) := by decide +kernel
theorem dX6_isContract_21 : decode cX6_isContract 21 = .ok (.ireturn, 1) := by decide +kernel
theorem dX6_isDay_0 : decode cX6_isDay 0 = .ok (.iload_n 0, 1) := by decide +kernel
theorem dX6_isDay_1 : decode cX6_isDay 1 = .ok (.ifCond .lt 13, 3) := by decide +kernel
theorem dX6_isDay_4 : decode cX6_isDay 4 = .ok (.iload_n 0, 1) := by decide +kernel
theorem dX6_isDay_5 : decode cX6_isDay 5 = .ok (.bipush 12, 2) := by decide +kernel
theorem dX6_isDay_7 : decode cX6_isDay 7 = .ok (.if_icmp .ge 7, 3) := by decide +kernel
theorem dX6_isDay_10 : decode cX6_isDay 10 = .ok (.iconst 1, 1) := by decide +kernel
theorem dX6_isDay_11 : decode cX6_isDay 11 = .ok (.goto 4, 3) := by decide +kernel
theorem dX6_isDay_14 : decode cX6_isDay 14 = .ok (.iconst 0, 1) := by decide +kernel
theorem dX6_isDay_15 : decode cX6_isDay 15 = .ok (.ireturn, 1) := by decide +kernel
theorem dX6_isGap_0 : decode cX6_isGap 0 = .ok (.iload_n 0, 1) := by decide +kernel
theorem dX6_isGap_1 : decode cX6_isGap 1 = .ok (.ifCond .lt 13, 3) := by decide +kernel
theorem dX6_isGap_4 : decode cX6_isGap 4 = .ok (.iload_n 0, 1) := by decide +kernel
theorem dX6_isGap_5 : decode cX6_isGap 5 = .ok (.bipush 13, 2) := by decide +kernel
theorem dX6_isGap_7 : decode cX6_isGap 7 = .ok (.if_icmp .ge 7, 3) := by decide +kernel
theorem dX6_isGap_10 : decode cX6_isGap 10 = .ok (.iconst 1, 1) := by decide +kernel
theorem dX6_isGap_11 : decode cX6_isGap 11 = .ok (.goto 4, 3) := by decide +kernel
theorem dX6_isGap_14 : decode cX6_isGap 14 = .ok (.iconst 0, 1) := by decide +kernel
theorem dX6_isGap_15 : decode cX6_isGap 15 = .ok (.ireturn, 1) := by decide +kernel
theorem dX6_isPlace_0 : decode cX6_isPlace 0 = .ok (.iload_n 0, 1) := by decide +kernel
theorem dX6_isPlace_1 : decode cX6_isPlace 1 = .ok (.ifCond .lt 13, 3) := by decide +kernel
theorem dX6_isPlace_4 : decode cX6_isPlace 4 = .ok (.iload_n 0, 1) := by decide +kernel
theorem dX6_isPlace_5 : decode cX6_isPlace 5 = .ok (.bipush 14, 2) := by decide +kernel
theorem dX6_isPlace_7 : decode cX6_isPlace 7 = .ok (.if_icmp .ge 7, 3) := by decide +kernel
theorem dX6_isPlace_10 : decode cX6_isPlace 10 = .ok (.iconst 1, 1) := by decide +kernel
theorem dX6_isPlace_11 : decode cX6_isPlace 11 = .ok (.goto 4, 3) := by decide +kernel
theorem dX6_isPlace_14 : decode cX6_isPlace 14 = .ok (.iconst 0, 1) := by decide +kernel
theorem dX6_isPlace_15 : decode cX6_isPlace 15 = .ok (.ireturn, 1) := by decide +kernel
theorem dX6_isZeroOrOne_0 : decode cX6_isZeroOrOne 0 = .ok (.iload_n 0, 1) := by decide +kernel
theorem dX6_isZeroOrOne_1 : decode cX6_isZeroOrOne 1 = .ok (.ifCond .eq 8, 3) := by decide +kernel
theorem dX6_isZeroOrOne_4 : decode cX6_isZeroOrOne 4 = .ok (.iload_n 0, 1) := by decide +kernel
theorem dX6_isZeroOrOne_5 : decode cX6_isZeroOrOne 5 = .ok (.iconst 1, 1) := by decide +kernel
theorem dX6_isZeroOrOne_6 : decode cX6_isZeroOrOne 6 = .ok (.if_icmp .ne 7, 3) := by decide +kernel
theorem dX6_isZeroOrOne_9 : decode cX6_isZeroOrOne 9 = .ok (.iconst 1, 1) := by decide +kernel
theorem dX6_isZeroOrOne_10 : decode cX6_isZeroOrOne 10 = .ok (.goto 4, 3) := by decide +kernel
theorem dX6_isZeroOrOne_13 : decode cX6_isZeroOrOne 13 = .ok (.iconst 0, 1) := by decide +kernel
theorem dX6_isZeroOrOne_14 : decode cX6_isZeroOrOne 14 = .ok (.ireturn, 1) := by decide +kernel
theorem dX6_areBits_0 : decode cX6_areBits 0 = .ok (.iload_n 0, 1) := by decide +kernel
theorem dX6_areBits_1 : decode cX6_areBits 1 = .ok (.ifCond .lt 13, 3) := by decide +kernel
theorem dX6_areBits_4 : decode cX6_areBits 4 = .ok (.iload_n 0, 1) := by decide +kernel
theorem dX6_areBits_5 : decode cX6_areBits 5 = .ok (.iload_n 1, 1) := by decide +kernel
theorem dX6_areBits_6 : decode cX6_areBits 6 = .ok (.ishr, 1) := by decide +kernel
theorem dX6_areBits_7 : decode cX6_areBits 7 = .ok (.ifCond .ne 7, 3) := by decide +kernel
theorem dX6_areBits_10 : decode cX6_areBits 10 = .ok (.iconst 1, 1) := by decide +kernel
theorem dX6_areBits_11 : decode cX6_areBits 11 = .ok (.goto 4, 3) := by decide +kernel
theorem dX6_areBits_14 : decode cX6_areBits 14 = .ok (.iconst 0, 1) := by decide +kernel
theorem dX6_areBits_15 : decode cX6_areBits 15 = .ok (.ireturn, 1) := by decide +kernel
theorem dX6_gapOrNone_0 : decode cX6_gapOrNone 0 = .ok (.iload_n 0, 1) := by decide +kernel
theorem dX6_gapOrNone_1 : decode cX6_gapOrNone 1 = .ok (.bipush 13, 2) := by decide +kernel
theorem dX6_gapOrNone_3 : decode cX6_gapOrNone 3 = .ok (.if_icmp .ne 8, 3) := by decide +kernel
theorem dX6_gapOrNone_6 : decode cX6_gapOrNone 6 = .ok (.bipush (-9), 2) := by decide +kernel
theorem dX6_gapOrNone_8 : decode cX6_gapOrNone 8 = .ok (.goto 4, 3) := by decide +kernel
theorem dX6_gapOrNone_11 : decode cX6_gapOrNone 11 = .ok (.iload_n 0, 1) := by decide +kernel
theorem dX6_gapOrNone_12 : decode cX6_gapOrNone 12 = .ok (.ireturn, 1) := by decide +kernel
theorem dX6_comingOf_0 : decode cX6_comingOf 0 = .ok (.iload_n 0, 1) := by decide +kernel
theorem dX6_comingOf_1 : decode cX6_comingOf 1 = .ok (.iload_n 1, 1) := by decide +kernel
theorem dX6_comingOf_2 : decode cX6_comingOf 2 = .ok (.if_icmp .ge 7, 3) := by decide +kernel
theorem dX6_comingOf_5 : decode cX6_comingOf 5 = .ok (.iload_n 0, 1) := by decide +kernel
theorem dX6_comingOf_6 : decode cX6_comingOf 6 = .ok (.goto 6, 3) := by decide +kernel
theorem dX6_comingOf_9 : decode cX6_comingOf 9 = .ok (.iload_n 0, 1) := by decide +kernel
theorem dX6_comingOf_10 : decode cX6_comingOf 10 = .ok (.iconst 1, 1) := by decide +kernel
theorem dX6_comingOf_11 : decode cX6_comingOf 11 = .ok (.iadd, 1) := by decide +kernel
theorem dX6_comingOf_12 : decode cX6_comingOf 12 = .ok (.ireturn, 1) := by decide +kernel
theorem dX6_nameOf_0 : decode cX6_nameOf 0 = .ok (.iload_n 0, 1) := by decide +kernel
theorem dX6_nameOf_1 : decode cX6_nameOf 1 = .ok (.iload_n 1, 1) := by decide +kernel
theorem dX6_nameOf_2 : decode cX6_nameOf 2 = .ok (.if_icmp .ne 12, 3) := by decide +kernel
theorem dX6_nameOf_5 : decode cX6_nameOf 5 = .ok (.iload_n 1, 1) := by decide +kernel
theorem dX6_nameOf_6 : decode cX6_nameOf 6 = .ok (.bipush 13, 2) := by decide +kernel
theorem dX6_nameOf_8 : decode cX6_nameOf 8 = .ok (.if_icmp .eq 6, 3) := by decide +kernel
theorem dX6_nameOf_11 : decode cX6_nameOf 11 = .ok (.bipush 12, 2) := by decide +kernel
theorem dX6_nameOf_13 : decode cX6_nameOf 13 = .ok (.ireturn, 1) := by decide +kernel
theorem dX6_nameOf_14 : decode cX6_nameOf 14 = .ok (.iload_n 0, 1) := by decide +kernel
theorem dX6_nameOf_15 : decode cX6_nameOf 15 = .ok (.iload_n 1, 1) := by decide +kernel
theorem dX6_nameOf_16 : decode cX6_nameOf 16 = .ok (.if_icmp .ge 7, 3) := by decide +kernel
theorem dX6_nameOf_19 : decode cX6_nameOf 19 = .ok (.iload_n 0, 1) := by decide +kernel
theorem dX6_nameOf_20 : decode cX6_nameOf 20 = .ok (.goto 6, 3) := by decide +kernel
theorem dX6_nameOf_23 : decode cX6_nameOf 23 = .ok (.iload_n 0, 1) := by decide +kernel
theorem dX6_nameOf_24 : decode cX6_nameOf 24 = .ok (.iconst 1, 1) := by decide +kernel
theorem dX6_nameOf_25 : decode cX6_nameOf 25 = .ok (.isub, 1) := by decide +kernel
theorem dX6_nameOf_26 : decode cX6_nameOf 26 = .ok (.istore_n 2, 1) := by decide +kernel
theorem dX6_nameOf_27 : decode cX6_nameOf 27 = .ok (.iload_n 2, 1) := by decide +kernel
theorem dX6_nameOf_28 : decode cX6_nameOf 28 = .ok (.bipush 12, 2) := by decide +kernel
theorem dX6_nameOf_30 : decode cX6_nameOf 30 = .ok (.if_icmp .ge 7, 3) := by decide +kernel
theorem dX6_nameOf_33 : decode cX6_nameOf 33 = .ok (.iload_n 2, 1) := by decide +kernel
theorem dX6_nameOf_34 : decode cX6_nameOf 34 = .ok (.goto 5, 3) := by decide +kernel
theorem dX6_nameOf_37 : decode cX6_nameOf 37 = .ok (.bipush 13, 2) := by decide +kernel
theorem dX6_nameOf_39 : decode cX6_nameOf 39 = .ok (.ireturn, 1) := by decide +kernel
set_option maxRecDepth 20000 in
theorem ggX6_comesOn_X5_tideFirst : GoodIn wsX6_comesOn wsX5_tideFirst := goodIn_r _ [6, 7, 8, 9, 5, 10, 11, 12, 13, 14, 29, 30] (by decide +kernel) (by decide +kernel)
set_option maxRecDepth 20000 in
theorem gX6_comesOn_X5_tideFirst : GoodIn wsX6_comesOn (wsV RX6 246 RX5 yX5_tideFirst wsX5_tideFirst) := goodIn_app (goodIn_of _ (by decide +kernel)) ggX6_comesOn_X5_tideFirst
set_option maxRecDepth 20000 in
theorem ggX6_comesOn_X5_tideEach : GoodIn wsX6_comesOn wsX5_tideEach := goodIn_r _ [18, 7, 8, 9, 5, 10, 11, 12, 13, 14, 29, 30] (by decide +kernel) (by decide +kernel)
set_option maxRecDepth 20000 in
theorem gX6_comesOn_X5_tideEach : GoodIn wsX6_comesOn (wsV RX6 249 RX5 yX5_tideEach wsX5_tideEach) := goodIn_app (goodIn_of _ (by decide +kernel)) ggX6_comesOn_X5_tideEach
theorem dX6_comesOn_0 : decode cX6_comesOn 0 = .ok (.iload_n 2, 1) := by decide +kernel
theorem dX6_comesOn_1 : decode cX6_comesOn 1 = .ok (.aload_n 0, 1) := by decide +kernel
theorem dX6_comesOn_2 : decode cX6_comesOn 2 = .ok (.getfield 19, 3) := by decide +kernel
theorem dX6_comesOn_5 : decode cX6_comesOn 5 = .ok (.iload_n 1, 1) := by decide +kernel
theorem dX6_comesOn_6 : decode cX6_comesOn 6 = .ok (.invokevirtual 246, 3) := by decide +kernel
theorem dX6_comesOn_9 : decode cX6_comesOn 9 = .ok (.isub, 1) := by decide +kernel
theorem dX6_comesOn_10 : decode cX6_comesOn 10 = .ok (.istore_n 3, 1) := by decide +kernel
theorem dX6_comesOn_11 : decode cX6_comesOn 11 = .ok (.aload_n 0, 1) := by decide +kernel
theorem dX6_comesOn_12 : decode cX6_comesOn 12 = .ok (.getfield 19, 3) := by decide +kernel
theorem dX6_comesOn_15 : decode cX6_comesOn 15 = .ok (.iload_n 1, 1) := by decide +kernel
theorem dX6_comesOn_16 : decode cX6_comesOn 16 = .ok (.invokevirtual 249, 3) := by decide +kernel
theorem dX6_comesOn_19 : decode cX6_comesOn 19 = .ok (.istore 4, 2) := by decide +kernel
theorem dX6_comesOn_21 : decode cX6_comesOn 21 = .ok (.iload_n 3, 1) := by decide +kernel
theorem dX6_comesOn_22 : decode cX6_comesOn 22 = .ok (.ifCond .lt 19, 3) := by decide +kernel
theorem dX6_comesOn_25 : decode cX6_comesOn 25 = .ok (.iload 4, 2) := by decide +kernel
theorem dX6_comesOn_27 : decode cX6_comesOn 27 = .ok (.ifCond .le 14, 3) := by decide +kernel
theorem dX6_comesOn_30 : decode cX6_comesOn 30 = .ok (.iload_n 3, 1) := by decide +kernel
theorem dX6_comesOn_31 : decode cX6_comesOn 31 = .ok (.iload 4, 2) := by decide +kernel
theorem dX6_comesOn_33 : decode cX6_comesOn 33 = .ok (.irem, 1) := by decide +kernel
theorem dX6_comesOn_34 : decode cX6_comesOn 34 = .ok (.ifCond .ne 7, 3) := by decide +kernel
theorem dX6_comesOn_37 : decode cX6_comesOn 37 = .ok (.iconst 1, 1) := by decide +kernel
theorem dX6_comesOn_38 : decode cX6_comesOn 38 = .ok (.goto 4, 3) := by decide +kernel
theorem dX6_comesOn_41 : decode cX6_comesOn 41 = .ok (.iconst 0, 1) := by decide +kernel
theorem dX6_comesOn_42 : decode cX6_comesOn 42 = .ok (.ireturn, 1) := by decide +kernel
set_option maxRecDepth 20000 in
theorem ggX6_endOf_X5_lengthOf : GoodIn wsX6_endOf wsX5_lengthOf := goodIn_r _ [6, 7, 8, 9, 5, 10, 11, 12, 13, 14, 33, 34] (by decide +kernel) (by decide +kernel)
set_option maxRecDepth 20000 in
theorem gX6_endOf_X5_lengthOf : GoodIn wsX6_endOf (wsV RX6 122 RX5 yX5_lengthOf wsX5_lengthOf) := goodIn_app (goodIn_of _ (by decide +kernel)) ggX6_endOf_X5_lengthOf
set_option maxRecDepth 20000 in
theorem ggX6_endOf_X5_startOf : GoodIn wsX6_endOf wsX5_startOf := goodIn_r _ [18, 7, 8, 9, 5, 10, 11, 12, 13, 14, 33, 34] (by decide +kernel) (by decide +kernel)
set_option maxRecDepth 20000 in
theorem gX6_endOf_X5_startOf : GoodIn wsX6_endOf (wsV RX6 116 RX5 yX5_startOf wsX5_startOf) := goodIn_app (goodIn_of _ (by decide +kernel)) ggX6_endOf_X5_startOf
set_option maxRecDepth 20000 in
theorem ggX6_endOf_X6_comingOf : GoodIn wsX6_endOf wsX6_comingOf := goodIn_r _ [22] (by decide +kernel) (by decide +kernel)
set_option maxRecDepth 20000 in
theorem gX6_endOf_X6_comingOf : GoodIn wsX6_endOf (va_wsS RX6 191 yX6_comingOf wsX6_comingOf) := goodIn_app (goodIn_of _ (by decide +kernel)) ggX6_endOf_X6_comingOf
theorem dX6_endOf_0 : decode cX6_endOf 0 = .ok (.aload_n 0, 1) := by decide +kernel
theorem dX6_endOf_1 : decode cX6_endOf 1 = .ok (.getfield 19, 3) := by decide +kernel
theorem dX6_endOf_4 : decode cX6_endOf 4 = .ok (.iload_n 1, 1) := by decide +kernel
theorem dX6_endOf_5 : decode cX6_endOf 5 = .ok (.invokevirtual 122, 3) := by decide +kernel
theorem dX6_endOf_8 : decode cX6_endOf 8 = .ok (.istore 4, 2) := by decide +kernel
theorem dX6_endOf_10 : decode cX6_endOf 10 = .ok (.iload_n 2, 1) := by decide +kernel
theorem dX6_endOf_11 : decode cX6_endOf 11 = .ok (.ifCond .eq 21, 3) := by decide +kernel
theorem dX6_endOf_14 : decode cX6_endOf 14 = .ok (.aload_n 0, 1) := by decide +kernel
theorem dX6_endOf_15 : decode cX6_endOf 15 = .ok (.getfield 19, 3) := by decide +kernel
theorem dX6_endOf_18 : decode cX6_endOf 18 = .ok (.iload_n 1, 1) := by decide +kernel
theorem dX6_endOf_19 : decode cX6_endOf 19 = .ok (.invokevirtual 116, 3) := by decide +kernel
theorem dX6_endOf_22 : decode cX6_endOf 22 = .ok (.iload_n 3, 1) := by decide +kernel
theorem dX6_endOf_23 : decode cX6_endOf 23 = .ok (.invokestatic 191, 3) := by decide +kernel
theorem dX6_endOf_26 : decode cX6_endOf 26 = .ok (.iload 4, 2) := by decide +kernel
theorem dX6_endOf_28 : decode cX6_endOf 28 = .ok (.iadd, 1) := by decide +kernel
theorem dX6_endOf_29 : decode cX6_endOf 29 = .ok (.goto 9, 3) := by decide +kernel
theorem dX6_endOf_32 : decode cX6_endOf 32 = .ok (.iload 4, 2) := by decide +kernel
theorem dX6_endOf_34 : decode cX6_endOf 34 = .ok (.iload_n 3, 1) := by decide +kernel
theorem dX6_endOf_35 : decode cX6_endOf 35 = .ok (.invokestatic 191, 3) := by decide +kernel
theorem dX6_endOf_38 : decode cX6_endOf 38 = .ok (.ireturn, 1) := by decide +kernel
set_option maxRecDepth 20000 in
theorem ggX6_holdsAt_X3_isByCount : GoodIn wsX6_holdsAt wsX3_isByCount := goodIn_r _ [7, 8, 52, 53, 54] (by decide +kernel) (by decide +kernel)
set_option maxRecDepth 20000 in
theorem gX6_holdsAt_X3_isByCount : GoodIn wsX6_holdsAt (wsV RX6 119 RX3 yX3_isByCount wsX3_isByCount) := goodIn_app (goodIn_of _ (by decide +kernel)) ggX6_holdsAt_X3_isByCount
set_option maxRecDepth 20000 in
theorem ggX6_holdsAt_X6_endOf : GoodIn wsX6_holdsAt wsX6_endOf := goodIn_r _ [13, 2, 14, 15, 16, 17, 18, 19, 20, 21, 22, 23, 24, 25, 26, 27, 28, 29, 30, 31, 32, 12, 33, 42, 43, 44, 45, 46, 47, 48, 49, 50, 51, 55, 56] (by decide +kernel) (by decide +kernel)
set_option maxRecDepth 20000 in
theorem gX6_holdsAt_X6_endOf : GoodIn wsX6_holdsAt (wsV RX6 134 RX6 yX6_endOf wsX6_endOf) := goodIn_app (goodIn_of _ (by decide +kernel)) ggX6_holdsAt_X6_endOf
set_option maxRecDepth 20000 in
theorem ggX6_holdsAt_X5_startOf : GoodIn wsX6_holdsAt wsX5_startOf := goodIn_r _ [30, 19, 20, 21, 17, 22, 23, 24, 25, 26, 55, 56] (by decide +kernel) (by decide +kernel)
set_option maxRecDepth 20000 in
theorem gX6_holdsAt_X5_startOf : GoodIn wsX6_holdsAt (wsV RX6 116 RX5 yX5_startOf wsX5_startOf) := goodIn_app (goodIn_of _ (by decide +kernel)) ggX6_holdsAt_X5_startOf
set_option maxRecDepth 20000 in
theorem ggX6_holdsAt_X6_comingOf : GoodIn wsX6_holdsAt wsX6_comingOf := goodIn_r _ [33] (by decide +kernel) (by decide +kernel)
set_option maxRecDepth 20000 in
theorem gX6_holdsAt_X6_comingOf : GoodIn wsX6_holdsAt (va_wsS RX6 191 yX6_comingOf wsX6_comingOf) := goodIn_app (goodIn_of _ (by decide +kernel)) ggX6_holdsAt_X6_comingOf
set_option maxRecDepth 20000 in
theorem ggX6_holdsAt_X5_latestOf : GoodIn wsX6_holdsAt wsX5_latestOf := goodIn_r _ [37, 19, 20, 21, 17, 22, 23, 24, 25, 26, 55, 56] (by decide +kernel) (by decide +kernel)
set_option maxRecDepth 20000 in
theorem gX6_holdsAt_X5_latestOf : GoodIn wsX6_holdsAt (wsV RX6 125 RX5 yX5_latestOf wsX5_latestOf) := goodIn_app (goodIn_of _ (by decide +kernel)) ggX6_holdsAt_X5_latestOf
set_option maxRecDepth 20000 in
theorem ggX6_holdsAt_X5_leastOf : GoodIn wsX6_holdsAt wsX5_leastOf := goodIn_r _ [41, 19, 20, 21, 17, 22, 23, 24, 25, 26, 55, 56] (by decide +kernel) (by decide +kernel)
set_option maxRecDepth 20000 in
theorem gX6_holdsAt_X5_leastOf : GoodIn wsX6_holdsAt (wsV RX6 128 RX5 yX5_leastOf wsX5_leastOf) := goodIn_app (goodIn_of _ (by decide +kernel)) ggX6_holdsAt_X5_leastOf
theorem dX6_holdsAt_0 : decode cX6_holdsAt 0 = .ok (.aload_n 0, 1) := by decide +kernel
theorem dX6_holdsAt_1 : decode cX6_holdsAt 1 = .ok (.iload_n 1, 1) := by decide +kernel
theorem dX6_holdsAt_2 : decode cX6_holdsAt 2 = .ok (.aload_n 0, 1) := by decide +kernel
theorem dX6_holdsAt_3 : decode cX6_holdsAt 3 = .ok (.getfield 29, 3) := by decide +kernel
theorem dX6_holdsAt_6 : decode cX6_holdsAt 6 = .ok (.iload_n 1, 1) := by decide +kernel
theorem dX6_holdsAt_7 : decode cX6_holdsAt 7 = .ok (.invokevirtual 119, 3) := by decide +kernel
theorem dX6_holdsAt_10 : decode cX6_holdsAt 10 = .ok (.iload_n 2, 1) := by decide +kernel
theorem dX6_holdsAt_11 : decode cX6_holdsAt 11 = .ok (.invokevirtual 134, 3) := by decide +kernel
theorem dX6_holdsAt_14 : decode cX6_holdsAt 14 = .ok (.istore_n 3, 1) := by decide +kernel
theorem dX6_holdsAt_15 : decode cX6_holdsAt 15 = .ok (.iload_n 3, 1) := by decide +kernel
theorem dX6_holdsAt_16 : decode cX6_holdsAt 16 = .ok (.aload_n 0, 1) := by decide +kernel
theorem dX6_holdsAt_17 : decode cX6_holdsAt 17 = .ok (.getfield 19, 3) := by decide +kernel
theorem dX6_holdsAt_20 : decode cX6_holdsAt 20 = .ok (.iload_n 1, 1) := by decide +kernel
theorem dX6_holdsAt_21 : decode cX6_holdsAt 21 = .ok (.invokevirtual 116, 3) := by decide +kernel
theorem dX6_holdsAt_24 : decode cX6_holdsAt 24 = .ok (.iload_n 2, 1) := by decide +kernel
theorem dX6_holdsAt_25 : decode cX6_holdsAt 25 = .ok (.invokestatic 191, 3) := by decide +kernel
theorem dX6_holdsAt_28 : decode cX6_holdsAt 28 = .ok (.isub, 1) := by decide +kernel
theorem dX6_holdsAt_29 : decode cX6_holdsAt 29 = .ok (.istore 4, 2) := by decide +kernel
theorem dX6_holdsAt_31 : decode cX6_holdsAt 31 = .ok (.iload_n 3, 1) := by decide +kernel
theorem dX6_holdsAt_32 : decode cX6_holdsAt 32 = .ok (.aload_n 0, 1) := by decide +kernel
theorem dX6_holdsAt_33 : decode cX6_holdsAt 33 = .ok (.getfield 19, 3) := by decide +kernel
theorem dX6_holdsAt_36 : decode cX6_holdsAt 36 = .ok (.iload_n 1, 1) := by decide +kernel
theorem dX6_holdsAt_37 : decode cX6_holdsAt 37 = .ok (.invokevirtual 125, 3) := by decide +kernel
theorem dX6_holdsAt_40 : decode cX6_holdsAt 40 = .ok (.iload_n 2, 1) := by decide +kernel
theorem dX6_holdsAt_41 : decode cX6_holdsAt 41 = .ok (.invokestatic 191, 3) := by decide +kernel
theorem dX6_holdsAt_44 : decode cX6_holdsAt 44 = .ok (.if_icmp .gt 20, 3) := by decide +kernel
theorem dX6_holdsAt_47 : decode cX6_holdsAt 47 = .ok (.iload 4, 2) := by decide +kernel
theorem dX6_holdsAt_49 : decode cX6_holdsAt 49 = .ok (.aload_n 0, 1) := by decide +kernel
theorem dX6_holdsAt_50 : decode cX6_holdsAt 50 = .ok (.getfield 19, 3) := by decide +kernel
theorem dX6_holdsAt_53 : decode cX6_holdsAt 53 = .ok (.iload_n 1, 1) := by decide +kernel
theorem dX6_holdsAt_54 : decode cX6_holdsAt 54 = .ok (.invokevirtual 128, 3) := by decide +kernel
theorem dX6_holdsAt_57 : decode cX6_holdsAt 57 = .ok (.if_icmp .lt 7, 3) := by decide +kernel
theorem dX6_holdsAt_60 : decode cX6_holdsAt 60 = .ok (.iconst 1, 1) := by decide +kernel
theorem dX6_holdsAt_61 : decode cX6_holdsAt 61 = .ok (.goto 4, 3) := by decide +kernel
theorem dX6_holdsAt_64 : decode cX6_holdsAt 64 = .ok (.iconst 0, 1) := by decide +kernel
theorem dX6_holdsAt_65 : decode cX6_holdsAt 65 = .ok (.ireturn, 1) := by decide +kernel
set_option maxRecDepth 20000 in
theorem ggX6_brokenAt_X5_sizeOf : GoodIn wsX6_brokenAt wsX5_sizeOf := goodIn_r _ [7, 8, 66, 67] (by decide +kernel) (by decide +kernel)
set_option maxRecDepth 20000 in
theorem gX6_brokenAt_X5_sizeOf : GoodIn wsX6_brokenAt (wsV RX6 92 RX5 yX5_sizeOf wsX5_sizeOf) := goodIn_app (goodIn_of _ (by decide +kernel)) ggX6_brokenAt_X5_sizeOf
set_option maxRecDepth 20000 in
theorem ggX6_brokenAt_X3_isVoid : GoodIn wsX6_brokenAt wsX3_isVoid := goodIn_r _ [13, 14, 68, 69, 70] (by decide +kernel) (by decide +kernel)
set_option maxRecDepth 20000 in
theorem gX6_brokenAt_X3_isVoid : GoodIn wsX6_brokenAt (wsV RX6 131 RX3 yX3_isVoid wsX3_isVoid) := goodIn_app (goodIn_of _ (by decide +kernel)) ggX6_brokenAt_X3_isVoid
set_option maxRecDepth 20000 in
theorem ggX6_brokenAt_X6_holdsAt : GoodIn wsX6_brokenAt wsX6_holdsAt := goodIn_r _ [19, 2, 1, 20, 21, 22, 12, 23, 24, 25, 26, 27, 18, 28, 29, 30, 31, 6, 32, 33, 34, 35, 36, 37, 38, 39, 40, 41, 42, 43, 44, 45, 46, 47, 48, 49, 50, 51, 52, 53, 54, 55, 56, 57, 58, 59, 60, 61, 62, 63, 64, 65, 68, 69, 70, 66, 67] (by decide +kernel) (by decide +kernel)
set_option maxRecDepth 20000 in
theorem gX6_brokenAt_X6_holdsAt : GoodIn wsX6_brokenAt (wsV RX6 252 RX6 yX6_holdsAt wsX6_holdsAt) := goodIn_app (goodIn_of _ (by decide +kernel)) ggX6_brokenAt_X6_holdsAt
theorem dX6_brokenAt_0 : decode cX6_brokenAt 0 = .ok (.iconst 0, 1) := by decide +kernel
theorem dX6_brokenAt_1 : decode cX6_brokenAt 1 = .ok (.istore_n 2, 1) := by decide +kernel
theorem dX6_brokenAt_2 : decode cX6_brokenAt 2 = .ok (.iconst 0, 1) := by decide +kernel
theorem dX6_brokenAt_3 : decode cX6_brokenAt 3 = .ok (.istore_n 3, 1) := by decide +kernel
theorem dX6_brokenAt_4 : decode cX6_brokenAt 4 = .ok (.iload_n 3, 1) := by decide +kernel
theorem dX6_brokenAt_5 : decode cX6_brokenAt 5 = .ok (.aload_n 0, 1) := by decide +kernel
theorem dX6_brokenAt_6 : decode cX6_brokenAt 6 = .ok (.getfield 19, 3) := by decide +kernel
theorem dX6_brokenAt_9 : decode cX6_brokenAt 9 = .ok (.iconst 0, 1) := by decide +kernel
theorem dX6_brokenAt_10 : decode cX6_brokenAt 10 = .ok (.invokevirtual 92, 3) := by decide +kernel
theorem dX6_brokenAt_13 : decode cX6_brokenAt 13 = .ok (.if_icmp .ge 35, 3) := by decide +kernel
theorem dX6_brokenAt_16 : decode cX6_brokenAt 16 = .ok (.aload_n 0, 1) := by decide +kernel
theorem dX6_brokenAt_17 : decode cX6_brokenAt 17 = .ok (.getfield 29, 3) := by decide +kernel
theorem dX6_brokenAt_20 : decode cX6_brokenAt 20 = .ok (.iload_n 3, 1) := by decide +kernel
theorem dX6_brokenAt_21 : decode cX6_brokenAt 21 = .ok (.invokevirtual 131, 3) := by decide +kernel
theorem dX6_brokenAt_24 : decode cX6_brokenAt 24 = .ok (.ifCond .ne 18, 3) := by decide +kernel
theorem dX6_brokenAt_27 : decode cX6_brokenAt 27 = .ok (.aload_n 0, 1) := by decide +kernel
theorem dX6_brokenAt_28 : decode cX6_brokenAt 28 = .ok (.iload_n 3, 1) := by decide +kernel
theorem dX6_brokenAt_29 : decode cX6_brokenAt 29 = .ok (.iload_n 1, 1) := by decide +kernel
theorem dX6_brokenAt_30 : decode cX6_brokenAt 30 = .ok (.invokevirtual 252, 3) := by decide +kernel
theorem dX6_brokenAt_33 : decode cX6_brokenAt 33 = .ok (.ifCond .ne 9, 3) := by decide +kernel
theorem dX6_brokenAt_36 : decode cX6_brokenAt 36 = .ok (.iload_n 2, 1) := by decide +kernel
theorem dX6_brokenAt_37 : decode cX6_brokenAt 37 = .ok (.iconst 1, 1) := by decide +kernel
theorem dX6_brokenAt_38 : decode cX6_brokenAt 38 = .ok (.iload_n 3, 1) := by decide +kernel
theorem dX6_brokenAt_39 : decode cX6_brokenAt 39 = .ok (.ishl, 1) := by decide +kernel
theorem dX6_brokenAt_40 : decode cX6_brokenAt 40 = .ok (.ior, 1) := by decide +kernel
theorem dX6_brokenAt_41 : decode cX6_brokenAt 41 = .ok (.istore_n 2, 1) := by decide +kernel
theorem dX6_brokenAt_42 : decode cX6_brokenAt 42 = .ok (.iinc 3 1, 3) := by decide +kernel
theorem dX6_brokenAt_45 : decode cX6_brokenAt 45 = .ok (.goto (-41), 3) := by decide +kernel
theorem dX6_brokenAt_48 : decode cX6_brokenAt 48 = .ok (.iload_n 2, 1) := by decide +kernel
theorem dX6_brokenAt_49 : decode cX6_brokenAt 49 = .ok (.ireturn, 1) := by decide +kernel
set_option maxRecDepth 20000 in
theorem ggX6_brokenNow_X6_brokenAt : GoodIn wsX6_brokenNow wsX6_brokenAt := goodIn_r _ [6, 7, 1, 8, 9, 10, 11, 12, 13, 14, 15, 16, 17, 18, 19, 20, 21, 22, 5, 23, 24, 25, 26, 27, 28, 29, 30, 31, 32, 33, 34, 35, 36, 37, 38, 39, 40, 41, 42, 43, 44, 45, 46, 47, 48, 49, 50, 51, 52, 53, 54, 55, 56, 57, 58, 59, 67, 68, 69, 70, 71, 72, 73, 74, 75, 76, 80, 81, 77, 78, 79] (by decide +kernel) (by decide +kernel)
set_option maxRecDepth 20000 in
theorem gX6_brokenNow_X6_brokenAt : GoodIn wsX6_brokenNow (wsV RX6 105 RX6 yX6_brokenAt wsX6_brokenAt) := goodIn_app (goodIn_of _ (by decide +kernel)) ggX6_brokenNow_X6_brokenAt
set_option maxRecDepth 20000 in
theorem ggX6_brokenNow_J6_bitCount_0f7a4 : GoodIn wsX6_brokenNow wsJ6_bitCount_0f7a4 := goodIn_r _ [63, 64, 65, 66] (by decide +kernel) (by decide +kernel)
set_option maxRecDepth 20000 in
theorem gX6_brokenNow_J6_bitCount_0f7a4 : GoodIn wsX6_brokenNow (va_wsS RX6 167 yJ6_bitCount_0f7a4 wsJ6_bitCount_0f7a4) := goodIn_app (goodIn_of _ (by decide +kernel)) ggX6_brokenNow_J6_bitCount_0f7a4
theorem dX6_brokenNow_0 : decode cX6_brokenNow 0 = .ok (.aload_n 0, 1) := by decide +kernel
theorem dX6_brokenNow_1 : decode cX6_brokenNow 1 = .ok (.aload_n 0, 1) := by decide +kernel
theorem dX6_brokenNow_2 : decode cX6_brokenNow 2 = .ok (.getfield 29, 3) := by decide +kernel
theorem dX6_brokenNow_5 : decode cX6_brokenNow 5 = .ok (.getfield 96, 3) := by decide +kernel
theorem dX6_brokenNow_8 : decode cX6_brokenNow 8 = .ok (.invokevirtual 105, 3) := by decide +kernel
theorem dX6_brokenNow_11 : decode cX6_brokenNow 11 = .ok (.invokestatic 167, 3) := by decide +kernel
theorem dX6_brokenNow_14 : decode cX6_brokenNow 14 = .ok (.ireturn, 1) := by decide +kernel
set_option maxRecDepth 20000 in
theorem ggX6_holdingPlaces_X3_isVoid : GoodIn wsX6_holdingPlaces wsX3_isVoid := goodIn_r _ [6, 7, 61, 62, 63] (by decide +kernel) (by decide +kernel)
set_option maxRecDepth 20000 in
theorem gX6_holdingPlaces_X3_isVoid : GoodIn wsX6_holdingPlaces (wsV RX6 131 RX3 yX3_isVoid wsX3_isVoid) := goodIn_app (goodIn_of _ (by decide +kernel)) ggX6_holdingPlaces_X3_isVoid
set_option maxRecDepth 20000 in
theorem ggX6_holdingPlaces_X6_holdsAt : GoodIn wsX6_holdingPlaces wsX6_holdsAt := goodIn_r _ [12, 1, 13, 14, 15, 16, 5, 17, 18, 19, 20, 21, 11, 22, 23, 24, 25, 26, 27, 28, 29, 30, 31, 32, 33, 34, 35, 36, 37, 38, 39, 40, 41, 42, 43, 44, 45, 46, 47, 48, 49, 50, 51, 52, 53, 54, 55, 56, 57, 58, 59, 60, 61, 62, 63, 64, 65] (by decide +kernel) (by decide +kernel)
set_option maxRecDepth 20000 in
theorem gX6_holdingPlaces_X6_holdsAt : GoodIn wsX6_holdingPlaces (wsV RX6 252 RX6 yX6_holdsAt wsX6_holdsAt) := goodIn_app (goodIn_of _ (by decide +kernel)) ggX6_holdingPlaces_X6_holdsAt
theorem dX6_holdingPlaces_0 : decode cX6_holdingPlaces 0 = .ok (.iconst 0, 1) := by decide +kernel
theorem dX6_holdingPlaces_1 : decode cX6_holdingPlaces 1 = .ok (.istore_n 2, 1) := by decide +kernel
theorem dX6_holdingPlaces_2 : decode cX6_holdingPlaces 2 = .ok (.iconst 0, 1) := by decide +kernel
theorem dX6_holdingPlaces_3 : decode cX6_holdingPlaces 3 = .ok (.istore_n 3, 1) := by decide +kernel
theorem dX6_holdingPlaces_4 : decode cX6_holdingPlaces 4 = .ok (.iload_n 3, 1) := by decide +kernel
theorem dX6_holdingPlaces_5 : decode cX6_holdingPlaces 5 = .ok (.bipush 14, 2) := by decide +kernel
theorem dX6_holdingPlaces_7 : decode cX6_holdingPlaces 7 = .ok (.if_icmp .ge 35, 3) := by decide +kernel
theorem dX6_holdingPlaces_10 : decode cX6_holdingPlaces 10 = .ok (.aload_n 0, 1) := by decide +kernel
theorem dX6_holdingPlaces_11 : decode cX6_holdingPlaces 11 = .ok (.getfield 29, 3) := by decide +kernel
theorem dX6_holdingPlaces_14 : decode cX6_holdingPlaces 14 = .ok (.iload_n 1, 1) := by decide +kernel
theorem dX6_holdingPlaces_15 : decode cX6_holdingPlaces 15 = .ok (.invokevirtual 131, 3) := by decide +kernel
theorem dX6_holdingPlaces_18 : decode cX6_holdingPlaces 18 = .ok (.ifCond .ne 18, 3) := by decide +kernel
theorem dX6_holdingPlaces_21 : decode cX6_holdingPlaces 21 = .ok (.aload_n 0, 1) := by decide +kernel
theorem dX6_holdingPlaces_22 : decode cX6_holdingPlaces 22 = .ok (.iload_n 1, 1) := by decide +kernel
theorem dX6_holdingPlaces_23 : decode cX6_holdingPlaces 23 = .ok (.iload_n 3, 1) := by decide +kernel
theorem dX6_holdingPlaces_24 : decode cX6_holdingPlaces 24 = .ok (.invokevirtual 252, 3) := by decide +kernel
theorem dX6_holdingPlaces_27 : decode cX6_holdingPlaces 27 = .ok (.ifCond .eq 9, 3) := by decide +kernel
theorem dX6_holdingPlaces_30 : decode cX6_holdingPlaces 30 = .ok (.iload_n 2, 1) := by decide +kernel
theorem dX6_holdingPlaces_31 : decode cX6_holdingPlaces 31 = .ok (.iconst 1, 1) := by decide +kernel
theorem dX6_holdingPlaces_32 : decode cX6_holdingPlaces 32 = .ok (.iload_n 3, 1) := by decide +kernel
theorem dX6_holdingPlaces_33 : decode cX6_holdingPlaces 33 = .ok (.ishl, 1) := by decide +kernel
theorem dX6_holdingPlaces_34 : decode cX6_holdingPlaces 34 = .ok (.ior, 1) := by decide +kernel
theorem dX6_holdingPlaces_35 : decode cX6_holdingPlaces 35 = .ok (.istore_n 2, 1) := by decide +kernel
theorem dX6_holdingPlaces_36 : decode cX6_holdingPlaces 36 = .ok (.iinc 3 1, 3) := by decide +kernel
theorem dX6_holdingPlaces_39 : decode cX6_holdingPlaces 39 = .ok (.goto (-35), 3) := by decide +kernel
theorem dX6_holdingPlaces_42 : decode cX6_holdingPlaces 42 = .ok (.iload_n 2, 1) := by decide +kernel
theorem dX6_holdingPlaces_43 : decode cX6_holdingPlaces 43 = .ok (.ireturn, 1) := by decide +kernel
set_option maxRecDepth 20000 in
theorem ggX6_isSmallerSet_J6_bitCount_0f7a4 : GoodIn wsX6_isSmallerSet wsJ6_bitCount_0f7a4 := goodIn_r _ [4, 5, 6, 7] (by decide +kernel) (by decide +kernel)
set_option maxRecDepth 20000 in
theorem gX6_isSmallerSet_J6_bitCount_0f7a4 : GoodIn wsX6_isSmallerSet (va_wsS RX6 167 yJ6_bitCount_0f7a4 wsJ6_bitCount_0f7a4) := goodIn_app (goodIn_of _ (by decide +kernel)) ggX6_isSmallerSet_J6_bitCount_0f7a4
theorem dX6_isSmallerSet_0 : decode cX6_isSmallerSet 0 = .ok (.iload_n 0, 1) := by decide +kernel
theorem dX6_isSmallerSet_1 : decode cX6_isSmallerSet 1 = .ok (.invokestatic 167, 3) := by decide +kernel
theorem dX6_isSmallerSet_4 : decode cX6_isSmallerSet 4 = .ok (.istore_n 2, 1) := by decide +kernel
theorem dX6_isSmallerSet_5 : decode cX6_isSmallerSet 5 = .ok (.iload_n 1, 1) := by decide +kernel
theorem dX6_isSmallerSet_6 : decode cX6_isSmallerSet 6 = .ok (.invokestatic 167, 3) := by decide +kernel
theorem dX6_isSmallerSet_9 : decode cX6_isSmallerSet 9 = .ok (.istore_n 3, 1) := by decide +kernel
theorem dX6_isSmallerSet_10 : decode cX6_isSmallerSet 10 = .ok (.iload_n 2, 1) := by decide +kernel
theorem dX6_isSmallerSet_11 : decode cX6_isSmallerSet 11 = .ok (.iload_n 3, 1) := by decide +kernel
theorem dX6_isSmallerSet_12 : decode cX6_isSmallerSet 12 = .ok (.if_icmp .lt 13, 3) := by decide +kernel
theorem dX6_isSmallerSet_15 : decode cX6_isSmallerSet 15 = .ok (.iload_n 2, 1) := by decide +kernel
theorem dX6_isSmallerSet_16 : decode cX6_isSmallerSet 16 = .ok (.iload_n 3, 1) := by decide +kernel
theorem dX6_isSmallerSet_17 : decode cX6_isSmallerSet 17 = .ok (.if_icmp .ne 12, 3) := by decide +kernel
theorem dX6_isSmallerSet_20 : decode cX6_isSmallerSet 20 = .ok (.iload_n 0, 1) := by decide +kernel
theorem dX6_isSmallerSet_21 : decode cX6_isSmallerSet 21 = .ok (.iload_n 1, 1) := by decide +kernel
theorem dX6_isSmallerSet_22 : decode cX6_isSmallerSet 22 = .ok (.if_icmp .ge 7, 3) := by decide +kernel
theorem dX6_isSmallerSet_25 : decode cX6_isSmallerSet 25 = .ok (.iconst 1, 1) := by decide +kernel
theorem dX6_isSmallerSet_26 : decode cX6_isSmallerSet 26 = .ok (.goto 4, 3) := by decide +kernel
theorem dX6_isSmallerSet_29 : decode cX6_isSmallerSet 29 = .ok (.iconst 0, 1) := by decide +kernel
theorem dX6_isSmallerSet_30 : decode cX6_isSmallerSet 30 = .ok (.ireturn, 1) := by decide +kernel
set_option maxRecDepth 20000 in
theorem ggX6_endsAsSeen_X6_endOf : GoodIn wsX6_endsAsSeen wsX6_endOf := goodIn_r _ [7, 8, 9, 10, 11, 12, 13, 14, 15, 16, 17, 18, 19, 20, 21, 22, 23, 24, 25, 26, 27, 6, 28, 45, 46, 47, 48, 49, 50, 51, 52, 53, 54, 58, 59] (by decide +kernel) (by decide +kernel)
set_option maxRecDepth 20000 in
theorem gX6_endsAsSeen_X6_endOf : GoodIn wsX6_endsAsSeen (wsV RX6 134 RX6 yX6_endOf wsX6_endOf) := goodIn_app (goodIn_of _ (by decide +kernel)) ggX6_endsAsSeen_X6_endOf
set_option maxRecDepth 20000 in
theorem ggX6_endsAsSeen_X2_size : GoodIn wsX6_endsAsSeen wsX2_size := goodIn_r _ [33, 34, 60, 61, 62] (by decide +kernel) (by decide +kernel)
set_option maxRecDepth 20000 in
theorem gX6_endsAsSeen_X2_size : GoodIn wsX6_endsAsSeen (wsV RX6 111 RX2 yX2_size wsX2_size) := goodIn_app (goodIn_of _ (by decide +kernel)) ggX6_endsAsSeen_X2_size
set_option maxRecDepth 20000 in
theorem ggX6_endsAsSeen_X2_contractAt : GoodIn wsX6_endsAsSeen wsX2_contractAt := goodIn_r _ [38, 34, 39, 60, 61, 62] (by decide +kernel) (by decide +kernel)
set_option maxRecDepth 20000 in
theorem gX6_endsAsSeen_X2_contractAt : GoodIn wsX6_endsAsSeen (wsV RX6 255 RX2 yX2_contractAt wsX2_contractAt) := goodIn_app (goodIn_of _ (by decide +kernel)) ggX6_endsAsSeen_X2_contractAt
set_option maxRecDepth 20000 in
theorem ggX6_endsAsSeen_X2_dayAt : GoodIn wsX6_endsAsSeen wsX2_dayAt := goodIn_r _ [43, 34, 44, 60, 61, 62] (by decide +kernel) (by decide +kernel)
set_option maxRecDepth 20000 in
theorem gX6_endsAsSeen_X2_dayAt : GoodIn wsX6_endsAsSeen (wsV RX6 258 RX2 yX2_dayAt wsX2_dayAt) := goodIn_app (goodIn_of _ (by decide +kernel)) ggX6_endsAsSeen_X2_dayAt
set_option maxRecDepth 20000 in
theorem ggX6_endsAsSeen_X6_comingOf : GoodIn wsX6_endsAsSeen wsX6_comingOf := goodIn_r _ [28] (by decide +kernel) (by decide +kernel)
set_option maxRecDepth 20000 in
theorem gX6_endsAsSeen_X6_comingOf : GoodIn wsX6_endsAsSeen (va_wsS RX6 191 yX6_comingOf wsX6_comingOf) := goodIn_app (goodIn_of _ (by decide +kernel)) ggX6_endsAsSeen_X6_comingOf
theorem dX6_endsAsSeen_0 : decode cX6_endsAsSeen 0 = .ok (.aload_n 0, 1) := by decide +kernel
theorem dX6_endsAsSeen_1 : decode cX6_endsAsSeen 1 = .ok (.iload_n 1, 1) := by decide +kernel
theorem dX6_endsAsSeen_2 : decode cX6_endsAsSeen 2 = .ok (.iload_n 2, 1) := by decide +kernel
theorem dX6_endsAsSeen_3 : decode cX6_endsAsSeen 3 = .ok (.aload_n 0, 1) := by decide +kernel
theorem dX6_endsAsSeen_4 : decode cX6_endsAsSeen 4 = .ok (.getfield 29, 3) := by decide +kernel
theorem dX6_endsAsSeen_7 : decode cX6_endsAsSeen 7 = .ok (.getfield 96, 3) := by decide +kernel
theorem dX6_endsAsSeen_10 : decode cX6_endsAsSeen 10 = .ok (.invokevirtual 134, 3) := by decide +kernel
theorem dX6_endsAsSeen_13 : decode cX6_endsAsSeen 13 = .ok (.istore_n 3, 1) := by decide +kernel
theorem dX6_endsAsSeen_14 : decode cX6_endsAsSeen 14 = .ok (.iconst 0, 1) := by decide +kernel
theorem dX6_endsAsSeen_15 : decode cX6_endsAsSeen 15 = .ok (.istore 4, 2) := by decide +kernel
theorem dX6_endsAsSeen_17 : decode cX6_endsAsSeen 17 = .ok (.iload 4, 2) := by decide +kernel
theorem dX6_endsAsSeen_19 : decode cX6_endsAsSeen 19 = .ok (.aload_n 0, 1) := by decide +kernel
theorem dX6_endsAsSeen_20 : decode cX6_endsAsSeen 20 = .ok (.getfield 43, 3) := by decide +kernel
theorem dX6_endsAsSeen_23 : decode cX6_endsAsSeen 23 = .ok (.invokevirtual 111, 3) := by decide +kernel
theorem dX6_endsAsSeen_26 : decode cX6_endsAsSeen 26 = .ok (.if_icmp .ge 47, 3) := by decide +kernel
theorem dX6_endsAsSeen_29 : decode cX6_endsAsSeen 29 = .ok (.aload_n 0, 1) := by decide +kernel
theorem dX6_endsAsSeen_30 : decode cX6_endsAsSeen 30 = .ok (.getfield 43, 3) := by decide +kernel
theorem dX6_endsAsSeen_33 : decode cX6_endsAsSeen 33 = .ok (.iload 4, 2) := by decide +kernel
theorem dX6_endsAsSeen_35 : decode cX6_endsAsSeen 35 = .ok (.invokevirtual 255, 3) := by decide +kernel
theorem dX6_endsAsSeen_38 : decode cX6_endsAsSeen 38 = .ok (.iload_n 1, 1) := by decide +kernel
theorem dX6_endsAsSeen_39 : decode cX6_endsAsSeen 39 = .ok (.if_icmp .ne 28, 3) := by decide +kernel
theorem dX6_endsAsSeen_42 : decode cX6_endsAsSeen 42 = .ok (.aload_n 0, 1) := by decide +kernel
theorem dX6_endsAsSeen_43 : decode cX6_endsAsSeen 43 = .ok (.getfield 43, 3) := by decide +kernel
theorem dX6_endsAsSeen_46 : decode cX6_endsAsSeen 46 = .ok (.iload 4, 2) := by decide +kernel
theorem dX6_endsAsSeen_48 : decode cX6_endsAsSeen 48 = .ok (.invokevirtual 258, 3) := by decide +kernel
theorem dX6_endsAsSeen_51 : decode cX6_endsAsSeen 51 = .ok (.aload_n 0, 1) := by decide +kernel
theorem dX6_endsAsSeen_52 : decode cX6_endsAsSeen 52 = .ok (.getfield 29, 3) := by decide +kernel
theorem dX6_endsAsSeen_55 : decode cX6_endsAsSeen 55 = .ok (.getfield 96, 3) := by decide +kernel
theorem dX6_endsAsSeen_58 : decode cX6_endsAsSeen 58 = .ok (.invokestatic 191, 3) := by decide +kernel
theorem dX6_endsAsSeen_61 : decode cX6_endsAsSeen 61 = .ok (.iload_n 3, 1) := by decide +kernel
theorem dX6_endsAsSeen_62 : decode cX6_endsAsSeen 62 = .ok (.if_icmp .eq 5, 3) := by decide +kernel
theorem dX6_endsAsSeen_65 : decode cX6_endsAsSeen 65 = .ok (.iconst 0, 1) := by decide +kernel
theorem dX6_endsAsSeen_66 : decode cX6_endsAsSeen 66 = .ok (.ireturn, 1) := by decide +kernel
theorem dX6_endsAsSeen_67 : decode cX6_endsAsSeen 67 = .ok (.iinc 4 1, 3) := by decide +kernel
theorem dX6_endsAsSeen_70 : decode cX6_endsAsSeen 70 = .ok (.goto (-53), 3) := by decide +kernel
theorem dX6_endsAsSeen_73 : decode cX6_endsAsSeen 73 = .ok (.iconst 1, 1) := by decide +kernel
theorem dX6_endsAsSeen_74 : decode cX6_endsAsSeen 74 = .ok (.ireturn, 1) := by decide +kernel
set_option maxRecDepth 20000 in
theorem ggX6_netOf_X5_sizeOf : GoodIn wsX6_netOf wsX5_sizeOf := goodIn_r _ [6, 7, 38, 39] (by decide +kernel) (by decide +kernel)
set_option maxRecDepth 20000 in
theorem gX6_netOf_X5_sizeOf : GoodIn wsX6_netOf (wsV RX6 92 RX5 yX5_sizeOf wsX5_sizeOf) := goodIn_app (goodIn_of _ (by decide +kernel)) ggX6_netOf_X5_sizeOf
set_option maxRecDepth 20000 in
theorem ggX6_netOf_X5_debtor : GoodIn wsX6_netOf wsX5_debtor := goodIn_r _ [11, 12, 13, 14, 5, 15, 16, 17, 18, 19, 38, 39] (by decide +kernel) (by decide +kernel)
set_option maxRecDepth 20000 in
theorem gX6_netOf_X5_debtor : GoodIn wsX6_netOf (wsV RX6 261 RX5 yX5_debtor wsX5_debtor) := goodIn_app (goodIn_of _ (by decide +kernel)) ggX6_netOf_X5_debtor
set_option maxRecDepth 20000 in
theorem ggX6_netOf_X5_debtOf : GoodIn wsX6_netOf wsX5_debtOf := goodIn_r _ [23, 12, 13, 14, 5, 15, 16, 17, 18, 19, 38, 39] (by decide +kernel) (by decide +kernel)
set_option maxRecDepth 20000 in
theorem gX6_netOf_X5_debtOf : GoodIn wsX6_netOf (wsV RX6 264 RX5 yX5_debtOf wsX5_debtOf) := goodIn_app (goodIn_of _ (by decide +kernel)) ggX6_netOf_X5_debtOf
set_option maxRecDepth 20000 in
theorem ggX6_netOf_X5_creditor : GoodIn wsX6_netOf wsX5_creditor := goodIn_r _ [27, 12, 13, 14, 5, 15, 16, 17, 18, 19, 38, 39] (by decide +kernel) (by decide +kernel)
set_option maxRecDepth 20000 in
theorem gX6_netOf_X5_creditor : GoodIn wsX6_netOf (wsV RX6 267 RX5 yX5_creditor wsX5_creditor) := goodIn_app (goodIn_of _ (by decide +kernel)) ggX6_netOf_X5_creditor
theorem dX6_netOf_0 : decode cX6_netOf 0 = .ok (.iconst 0, 1) := by decide +kernel
theorem dX6_netOf_1 : decode cX6_netOf 1 = .ok (.istore_n 2, 1) := by decide +kernel
theorem dX6_netOf_2 : decode cX6_netOf 2 = .ok (.iconst 0, 1) := by decide +kernel
theorem dX6_netOf_3 : decode cX6_netOf 3 = .ok (.istore_n 3, 1) := by decide +kernel
theorem dX6_netOf_4 : decode cX6_netOf 4 = .ok (.iload_n 3, 1) := by decide +kernel
theorem dX6_netOf_5 : decode cX6_netOf 5 = .ok (.aload_n 0, 1) := by decide +kernel
theorem dX6_netOf_6 : decode cX6_netOf 6 = .ok (.getfield 19, 3) := by decide +kernel
theorem dX6_netOf_9 : decode cX6_netOf 9 = .ok (.iconst 3, 1) := by decide +kernel
theorem dX6_netOf_10 : decode cX6_netOf 10 = .ok (.invokevirtual 92, 3) := by decide +kernel
theorem dX6_netOf_13 : decode cX6_netOf 13 = .ok (.if_icmp .ge 55, 3) := by decide +kernel
theorem dX6_netOf_16 : decode cX6_netOf 16 = .ok (.aload_n 0, 1) := by decide +kernel
theorem dX6_netOf_17 : decode cX6_netOf 17 = .ok (.getfield 19, 3) := by decide +kernel
theorem dX6_netOf_20 : decode cX6_netOf 20 = .ok (.iload_n 3, 1) := by decide +kernel
theorem dX6_netOf_21 : decode cX6_netOf 21 = .ok (.invokevirtual 261, 3) := by decide +kernel
theorem dX6_netOf_24 : decode cX6_netOf 24 = .ok (.iload_n 1, 1) := by decide +kernel
theorem dX6_netOf_25 : decode cX6_netOf 25 = .ok (.if_icmp .ne 14, 3) := by decide +kernel
theorem dX6_netOf_28 : decode cX6_netOf 28 = .ok (.iload_n 2, 1) := by decide +kernel
theorem dX6_netOf_29 : decode cX6_netOf 29 = .ok (.aload_n 0, 1) := by decide +kernel
theorem dX6_netOf_30 : decode cX6_netOf 30 = .ok (.getfield 19, 3) := by decide +kernel
theorem dX6_netOf_33 : decode cX6_netOf 33 = .ok (.iload_n 3, 1) := by decide +kernel
theorem dX6_netOf_34 : decode cX6_netOf 34 = .ok (.invokevirtual 264, 3) := by decide +kernel
theorem dX6_netOf_37 : decode cX6_netOf 37 = .ok (.isub, 1) := by decide +kernel
theorem dX6_netOf_38 : decode cX6_netOf 38 = .ok (.istore_n 2, 1) := by decide +kernel
theorem dX6_netOf_39 : decode cX6_netOf 39 = .ok (.aload_n 0, 1) := by decide +kernel
theorem dX6_netOf_40 : decode cX6_netOf 40 = .ok (.getfield 19, 3) := by decide +kernel
theorem dX6_netOf_43 : decode cX6_netOf 43 = .ok (.iload_n 3, 1) := by decide +kernel
theorem dX6_netOf_44 : decode cX6_netOf 44 = .ok (.invokevirtual 267, 3) := by decide +kernel
theorem dX6_netOf_47 : decode cX6_netOf 47 = .ok (.iload_n 1, 1) := by decide +kernel
theorem dX6_netOf_48 : decode cX6_netOf 48 = .ok (.if_icmp .ne 14, 3) := by decide +kernel
theorem dX6_netOf_51 : decode cX6_netOf 51 = .ok (.iload_n 2, 1) := by decide +kernel
theorem dX6_netOf_52 : decode cX6_netOf 52 = .ok (.aload_n 0, 1) := by decide +kernel
theorem dX6_netOf_53 : decode cX6_netOf 53 = .ok (.getfield 19, 3) := by decide +kernel
theorem dX6_netOf_56 : decode cX6_netOf 56 = .ok (.iload_n 3, 1) := by decide +kernel
theorem dX6_netOf_57 : decode cX6_netOf 57 = .ok (.invokevirtual 264, 3) := by decide +kernel
theorem dX6_netOf_60 : decode cX6_netOf 60 = .ok (.iadd, 1) := by decide +kernel
theorem dX6_netOf_61 : decode cX6_netOf 61 = .ok (.istore_n 2, 1) := by decide +kernel
theorem dX6_netOf_62 : decode cX6_netOf 62 = .ok (.iinc 3 1, 3) := by decide +kernel
theorem dX6_netOf_65 : decode cX6_netOf 65 = .ok (.goto (-61), 3) := by decide +kernel
theorem dX6_netOf_68 : decode cX6_netOf 68 = .ok (.iload_n 2, 1) := by decide +kernel
theorem dX6_netOf_69 : decode cX6_netOf 69 = .ok (.ireturn, 1) := by decide +kernel
set_option maxRecDepth 20000 in
theorem ggX6_mostSets_X6_hasEvenPair : GoodIn wsX6_mostSets wsX6_hasEvenPair := goodIn_r _ [5, 6, 7, 8, 4, 9, 10, 11, 12, 13, 14, 15, 16, 17, 18, 19, 20, 21, 22, 23, 24, 25, 26, 27, 28, 29, 30, 31, 32, 33, 34, 35, 36, 37, 38, 39, 40, 41, 42, 43, 44, 45, 46, 47, 48] (by decide +kernel) (by decide +kernel)
set_option maxRecDepth 20000 in
theorem gX6_mostSets_X6_hasEvenPair : GoodIn wsX6_mostSets (wsV RX6 270 RX6 yX6_hasEvenPair wsX6_hasEvenPair) := goodIn_app (goodIn_of _ (by decide +kernel)) ggX6_mostSets_X6_hasEvenPair
theorem dX6_mostSets_0 : decode cX6_mostSets 0 = .ok (.iload_n 1, 1) := by decide +kernel
theorem dX6_mostSets_1 : decode cX6_mostSets 1 = .ok (.ifCond .ne 5, 3) := by decide +kernel
theorem dX6_mostSets_4 : decode cX6_mostSets 4 = .ok (.iconst 0, 1) := by decide +kernel
theorem dX6_mostSets_5 : decode cX6_mostSets 5 = .ok (.ireturn, 1) := by decide +kernel
theorem dX6_mostSets_6 : decode cX6_mostSets 6 = .ok (.iload_n 1, 1) := by decide +kernel
theorem dX6_mostSets_7 : decode cX6_mostSets 7 = .ok (.iconst 4, 1) := by decide +kernel
theorem dX6_mostSets_8 : decode cX6_mostSets 8 = .ok (.if_icmp .ne 14, 3) := by decide +kernel
theorem dX6_mostSets_11 : decode cX6_mostSets 11 = .ok (.aload_n 0, 1) := by decide +kernel
theorem dX6_mostSets_12 : decode cX6_mostSets 12 = .ok (.invokevirtual 270, 3) := by decide +kernel
theorem dX6_mostSets_15 : decode cX6_mostSets 15 = .ok (.ifCond .eq 7, 3) := by decide +kernel
theorem dX6_mostSets_18 : decode cX6_mostSets 18 = .ok (.iconst 2, 1) := by decide +kernel
theorem dX6_mostSets_19 : decode cX6_mostSets 19 = .ok (.goto 4, 3) := by decide +kernel
theorem dX6_mostSets_22 : decode cX6_mostSets 22 = .ok (.iconst 1, 1) := by decide +kernel
theorem dX6_mostSets_23 : decode cX6_mostSets 23 = .ok (.ireturn, 1) := by decide +kernel
set_option maxRecDepth 20000 in
theorem ggX6_hasEvenPair_X6_netOf : GoodIn wsX6_hasEvenPair wsX6_netOf := goodIn_r _ [5, 6, 7, 8, 9, 10, 11, 12, 13, 14, 15, 16, 17, 18, 19, 20, 21, 22, 23, 24, 25, 26, 27, 28, 29, 30, 31, 32, 33, 34, 35, 36, 37, 38, 39, 40, 41, 42, 43, 44] (by decide +kernel) (by decide +kernel)
set_option maxRecDepth 20000 in
theorem gX6_hasEvenPair_X6_netOf : GoodIn wsX6_hasEvenPair (wsV RX6 204 RX6 yX6_netOf wsX6_netOf) := goodIn_app (goodIn_of _ (by decide +kernel)) ggX6_hasEvenPair_X6_netOf
theorem dX6_hasEvenPair_0 : decode cX6_hasEvenPair 0 = .ok (.iconst 1, 1) := by decide +kernel
theorem dX6_hasEvenPair_1 : decode cX6_hasEvenPair 1 = .ok (.istore_n 1, 1) := by decide +kernel
theorem dX6_hasEvenPair_2 : decode cX6_hasEvenPair 2 = .ok (.iload_n 1, 1) := by decide +kernel
theorem dX6_hasEvenPair_3 : decode cX6_hasEvenPair 3 = .ok (.iconst 4, 1) := by decide +kernel
theorem dX6_hasEvenPair_4 : decode cX6_hasEvenPair 4 = .ok (.if_icmp .ge 25, 3) := by decide +kernel
theorem dX6_hasEvenPair_7 : decode cX6_hasEvenPair 7 = .ok (.aload_n 0, 1) := by decide +kernel
theorem dX6_hasEvenPair_8 : decode cX6_hasEvenPair 8 = .ok (.iconst 0, 1) := by decide +kernel
theorem dX6_hasEvenPair_9 : decode cX6_hasEvenPair 9 = .ok (.invokevirtual 204, 3) := by decide +kernel
theorem dX6_hasEvenPair_12 : decode cX6_hasEvenPair 12 = .ok (.aload_n 0, 1) := by decide +kernel
theorem dX6_hasEvenPair_13 : decode cX6_hasEvenPair 13 = .ok (.iload_n 1, 1) := by decide +kernel
theorem dX6_hasEvenPair_14 : decode cX6_hasEvenPair 14 = .ok (.invokevirtual 204, 3) := by decide +kernel
theorem dX6_hasEvenPair_17 : decode cX6_hasEvenPair 17 = .ok (.iadd, 1) := by decide +kernel
theorem dX6_hasEvenPair_18 : decode cX6_hasEvenPair 18 = .ok (.ifCond .ne 5, 3) := by decide +kernel
theorem dX6_hasEvenPair_21 : decode cX6_hasEvenPair 21 = .ok (.iconst 1, 1) := by decide +kernel
theorem dX6_hasEvenPair_22 : decode cX6_hasEvenPair 22 = .ok (.ireturn, 1) := by decide +kernel
theorem dX6_hasEvenPair_23 : decode cX6_hasEvenPair 23 = .ok (.iinc 1 1, 3) := by decide +kernel
theorem dX6_hasEvenPair_26 : decode cX6_hasEvenPair 26 = .ok (.goto (-24), 3) := by decide +kernel
theorem dX6_hasEvenPair_29 : decode cX6_hasEvenPair 29 = .ok (.iconst 0, 1) := by decide +kernel
theorem dX6_hasEvenPair_30 : decode cX6_hasEvenPair 30 = .ok (.ireturn, 1) := by decide +kernel
theorem dX6_yearsBy_0 : decode cX6_yearsBy 0 = .ok (.iconst 0, 1) := by decide +kernel
theorem dX6_yearsBy_1 : decode cX6_yearsBy 1 = .ok (.istore_n 3, 1) := by decide +kernel
theorem dX6_yearsBy_2 : decode cX6_yearsBy 2 = .ok (.iconst 0, 1) := by decide +kernel
theorem dX6_yearsBy_3 : decode cX6_yearsBy 3 = .ok (.istore 4, 2) := by decide +kernel
theorem dX6_yearsBy_5 : decode cX6_yearsBy 5 = .ok (.iload 4, 2) := by decide +kernel
theorem dX6_yearsBy_7 : decode cX6_yearsBy 7 = .ok (.iload_n 0, 1) := by decide +kernel
theorem dX6_yearsBy_8 : decode cX6_yearsBy 8 = .ok (.if_icmp .ge 28, 3) := by decide +kernel
theorem dX6_yearsBy_11 : decode cX6_yearsBy 11 = .ok (.iload_n 1, 1) := by decide +kernel
theorem dX6_yearsBy_12 : decode cX6_yearsBy 12 = .ok (.ifCond .le 18, 3) := by decide +kernel
theorem dX6_yearsBy_15 : decode cX6_yearsBy 15 = .ok (.iload 4, 2) := by decide +kernel
theorem dX6_yearsBy_17 : decode cX6_yearsBy 17 = .ok (.iload_n 1, 1) := by decide +kernel
theorem dX6_yearsBy_18 : decode cX6_yearsBy 18 = .ok (.irem, 1) := by decide +kernel
theorem dX6_yearsBy_19 : decode cX6_yearsBy 19 = .ok (.iload_n 2, 1) := by decide +kernel
theorem dX6_yearsBy_20 : decode cX6_yearsBy 20 = .ok (.if_icmp .ne 10, 3) := by decide +kernel
theorem dX6_yearsBy_23 : decode cX6_yearsBy 23 = .ok (.iload_n 3, 1) := by decide +kernel
theorem dX6_yearsBy_24 : decode cX6_yearsBy 24 = .ok (.iconst 1, 1) := by decide +kernel
theorem dX6_yearsBy_25 : decode cX6_yearsBy 25 = .ok (.iload 4, 2) := by decide +kernel
theorem dX6_yearsBy_27 : decode cX6_yearsBy 27 = .ok (.ishl, 1) := by decide +kernel
theorem dX6_yearsBy_28 : decode cX6_yearsBy 28 = .ok (.ior, 1) := by decide +kernel
theorem dX6_yearsBy_29 : decode cX6_yearsBy 29 = .ok (.istore_n 3, 1) := by decide +kernel
theorem dX6_yearsBy_30 : decode cX6_yearsBy 30 = .ok (.iinc 4 1, 3) := by decide +kernel
theorem dX6_yearsBy_33 : decode cX6_yearsBy 33 = .ok (.goto (-28), 3) := by decide +kernel
theorem dX6_yearsBy_36 : decode cX6_yearsBy 36 = .ok (.iload_n 3, 1) := by decide +kernel
theorem dX6_yearsBy_37 : decode cX6_yearsBy 37 = .ok (.ireturn, 1) := by decide +kernel
theorem dX6_choices_0 : decode cX6_choices 0 = .ok (.iconst 1, 1) := by decide +kernel
theorem dX6_choices_1 : decode cX6_choices 1 = .ok (.istore_n 2, 1) := by decide +kernel
theorem dX6_choices_2 : decode cX6_choices 2 = .ok (.iconst 0, 1) := by decide +kernel
theorem dX6_choices_3 : decode cX6_choices 3 = .ok (.istore_n 3, 1) := by decide +kernel
theorem dX6_choices_4 : decode cX6_choices 4 = .ok (.iload_n 3, 1) := by decide +kernel
theorem dX6_choices_5 : decode cX6_choices 5 = .ok (.iload_n 1, 1) := by decide +kernel
theorem dX6_choices_6 : decode cX6_choices 6 = .ok (.if_icmp .ge 19, 3) := by decide +kernel
theorem dX6_choices_9 : decode cX6_choices 9 = .ok (.iload_n 2, 1) := by decide +kernel
theorem dX6_choices_10 : decode cX6_choices 10 = .ok (.iload_n 0, 1) := by decide +kernel
theorem dX6_choices_11 : decode cX6_choices 11 = .ok (.iload_n 3, 1) := by decide +kernel
theorem dX6_choices_12 : decode cX6_choices 12 = .ok (.isub, 1) := by decide +kernel
theorem dX6_choices_13 : decode cX6_choices 13 = .ok (.imul, 1) := by decide +kernel
theorem dX6_choices_14 : decode cX6_choices 14 = .ok (.iload_n 3, 1) := by decide +kernel
theorem dX6_choices_15 : decode cX6_choices 15 = .ok (.iconst 1, 1) := by decide +kernel
theorem dX6_choices_16 : decode cX6_choices 16 = .ok (.iadd, 1) := by decide +kernel
theorem dX6_choices_17 : decode cX6_choices 17 = .ok (.idiv, 1) := by decide +kernel
theorem dX6_choices_18 : decode cX6_choices 18 = .ok (.istore_n 2, 1) := by decide +kernel
theorem dX6_choices_19 : decode cX6_choices 19 = .ok (.iinc 3 1, 3) := by decide +kernel
theorem dX6_choices_22 : decode cX6_choices 22 = .ok (.goto (-18), 3) := by decide +kernel
theorem dX6_choices_25 : decode cX6_choices 25 = .ok (.iload_n 2, 1) := by decide +kernel
theorem dX6_choices_26 : decode cX6_choices 26 = .ok (.ireturn, 1) := by decide +kernel
theorem dX6_power_0 : decode cX6_power 0 = .ok (.iconst 1, 1) := by decide +kernel
theorem dX6_power_1 : decode cX6_power 1 = .ok (.istore_n 2, 1) := by decide +kernel
theorem dX6_power_2 : decode cX6_power 2 = .ok (.iconst 0, 1) := by decide +kernel
theorem dX6_power_3 : decode cX6_power 3 = .ok (.istore_n 3, 1) := by decide +kernel
theorem dX6_power_4 : decode cX6_power 4 = .ok (.iload_n 3, 1) := by decide +kernel
theorem dX6_power_5 : decode cX6_power 5 = .ok (.iload_n 1, 1) := by decide +kernel
theorem dX6_power_6 : decode cX6_power 6 = .ok (.if_icmp .ge 13, 3) := by decide +kernel
theorem dX6_power_9 : decode cX6_power 9 = .ok (.iload_n 2, 1) := by decide +kernel
theorem dX6_power_10 : decode cX6_power 10 = .ok (.iload_n 0, 1) := by decide +kernel
theorem dX6_power_11 : decode cX6_power 11 = .ok (.imul, 1) := by decide +kernel
theorem dX6_power_12 : decode cX6_power 12 = .ok (.istore_n 2, 1) := by decide +kernel
theorem dX6_power_13 : decode cX6_power 13 = .ok (.iinc 3 1, 3) := by decide +kernel
theorem dX6_power_16 : decode cX6_power 16 = .ok (.goto (-12), 3) := by decide +kernel
theorem dX6_power_19 : decode cX6_power 19 = .ok (.iload_n 2, 1) := by decide +kernel
theorem dX6_power_20 : decode cX6_power 20 = .ok (.ireturn, 1) := by decide +kernel
