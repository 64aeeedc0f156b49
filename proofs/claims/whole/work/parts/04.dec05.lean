theorem dX0_init_0 : decode cX0_init 0 = .ok (.aload_n 0, 1) := by decide +kernel
theorem dX0_init_1 : decode cX0_init 1 = .ok (.invokespecial 3, 3) := by decide +kernel
theorem dX0_init_4 : decode cX0_init 4 = .ok (.aload_n 0, 1) := by decide +kernel
theorem dX0_init_5 : decode cX0_init 5 = .ok (.bipush 14, 2) := by decide +kernel
theorem dX0_init_7 : decode cX0_init 7 = .ok (.newarray .int, 2) := by decide +kernel
theorem dX0_init_9 : decode cX0_init 9 = .ok (.putfield 11, 3) := by decide +kernel
theorem dX0_init_12 : decode cX0_init 12 = .ok (.aload_n 0, 1) := by decide +kernel
theorem dX0_init_13 : decode cX0_init 13 = .ok (.bipush 14, 2) := by decide +kernel
theorem dX0_init_15 : decode cX0_init 15 = .ok (.newarray .int, 2) := by decide +kernel
theorem dX0_init_17 : decode cX0_init 17 = .ok (.putfield 15, 3) := by decide +kernel
theorem dX0_init_20 : decode cX0_init 20 = .ok (.aload_n 0, 1) := by decide +kernel
theorem dX0_init_21 : decode cX0_init 21 = .ok (.iconst 0, 1) := by decide +kernel
theorem dX0_init_22 : decode cX0_init 22 = .ok (.putfield 18, 3) := by decide +kernel
theorem dX0_init_25 : decode cX0_init 25 = .ok (.return_, 1) := by decide +kernel
theorem dX0_size_0 : decode cX0_size 0 = .ok (.aload_n 0, 1) := by decide +kernel
theorem dX0_size_1 : decode cX0_size 1 = .ok (.getfield 18, 3) := by decide +kernel
theorem dX0_size_4 : decode cX0_size 4 = .ok (.ireturn, 1) := by decide +kernel
theorem dX0_clear_0 : decode cX0_clear 0 = .ok (.aload_n 0, 1) := by decide +kernel
theorem dX0_clear_1 : decode cX0_clear 1 = .ok (.iconst 0, 1) := by decide +kernel
theorem dX0_clear_2 : decode cX0_clear 2 = .ok (.putfield 18, 3) := by decide +kernel
theorem dX0_clear_5 : decode cX0_clear 5 = .ok (.return_, 1) := by decide +kernel
set_option maxRecDepth 20000 in
theorem ggX0_add_X0_forgetFirst : GoodIn wsX0_add wsX0_forgetFirst := goodIn_r _ [8, 2, 3, 1, 9, 10, 11] (by decide +kernel) (by decide +kernel)
set_option maxRecDepth 20000 in
theorem gX0_add_X0_forgetFirst : GoodIn wsX0_add (wsV RX0 22 RX0 yX0_forgetFirst wsX0_forgetFirst) := goodIn_app (goodIn_of _ (by decide +kernel)) ggX0_add_X0_forgetFirst
theorem dX0_add_0 : decode cX0_add 0 = .ok (.aload_n 0, 1) := by decide +kernel
theorem dX0_add_1 : decode cX0_add 1 = .ok (.getfield 18, 3) := by decide +kernel
theorem dX0_add_4 : decode cX0_add 4 = .ok (.bipush 14, 2) := by decide +kernel
theorem dX0_add_6 : decode cX0_add 6 = .ok (.if_icmp .lt 7, 3) := by decide +kernel
theorem dX0_add_9 : decode cX0_add 9 = .ok (.aload_n 0, 1) := by decide +kernel
theorem dX0_add_10 : decode cX0_add 10 = .ok (.invokevirtual 22, 3) := by decide +kernel
theorem dX0_add_13 : decode cX0_add 13 = .ok (.aload_n 0, 1) := by decide +kernel
theorem dX0_add_14 : decode cX0_add 14 = .ok (.getfield 11, 3) := by decide +kernel
theorem dX0_add_17 : decode cX0_add 17 = .ok (.aload_n 0, 1) := by decide +kernel
theorem dX0_add_18 : decode cX0_add 18 = .ok (.getfield 18, 3) := by decide +kernel
theorem dX0_add_21 : decode cX0_add 21 = .ok (.iload_n 1, 1) := by decide +kernel
theorem dX0_add_22 : decode cX0_add 22 = .ok (.iastore, 1) := by decide +kernel
theorem dX0_add_23 : decode cX0_add 23 = .ok (.aload_n 0, 1) := by decide +kernel
theorem dX0_add_24 : decode cX0_add 24 = .ok (.getfield 15, 3) := by decide +kernel
theorem dX0_add_27 : decode cX0_add 27 = .ok (.aload_n 0, 1) := by decide +kernel
theorem dX0_add_28 : decode cX0_add 28 = .ok (.getfield 18, 3) := by decide +kernel
theorem dX0_add_31 : decode cX0_add 31 = .ok (.iload_n 2, 1) := by decide +kernel
theorem dX0_add_32 : decode cX0_add 32 = .ok (.iastore, 1) := by decide +kernel
theorem dX0_add_33 : decode cX0_add 33 = .ok (.aload_n 0, 1) := by decide +kernel
theorem dX0_add_34 : decode cX0_add 34 = .ok (.dup, 1) := by decide +kernel
theorem dX0_add_35 : decode cX0_add 35 = .ok (.getfield 18, 3) := by decide +kernel
theorem dX0_add_38 : decode cX0_add 38 = .ok (.iconst 1, 1) := by decide +kernel
theorem dX0_add_39 : decode cX0_add 39 = .ok (.iadd, 1) := by decide +kernel
theorem dX0_add_40 : decode cX0_add 40 = .ok (.putfield 18, 3) := by decide +kernel
theorem dX0_add_43 : decode cX0_add 43 = .ok (.return_, 1) := by decide +kernel
theorem dX0_lastKind_0 : decode cX0_lastKind 0 = .ok (.aload_n 0, 1) := by decide +kernel
theorem dX0_lastKind_1 : decode cX0_lastKind 1 = .ok (.getfield 18, 3) := by decide +kernel
theorem dX0_lastKind_4 : decode cX0_lastKind 4 = .ok (.ifCond .le 17, 3) := by decide +kernel
theorem dX0_lastKind_7 : decode cX0_lastKind 7 = .ok (.aload_n 0, 1) := by decide +kernel
theorem dX0_lastKind_8 : decode cX0_lastKind 8 = .ok (.getfield 11, 3) := by decide +kernel
theorem dX0_lastKind_11 : decode cX0_lastKind 11 = .ok (.aload_n 0, 1) := by decide +kernel
theorem dX0_lastKind_12 : decode cX0_lastKind 12 = .ok (.getfield 18, 3) := by decide +kernel
theorem dX0_lastKind_15 : decode cX0_lastKind 15 = .ok (.iconst 1, 1) := by decide +kernel
theorem dX0_lastKind_16 : decode cX0_lastKind 16 = .ok (.isub, 1) := by decide +kernel
theorem dX0_lastKind_17 : decode cX0_lastKind 17 = .ok (.iaload, 1) := by decide +kernel
theorem dX0_lastKind_18 : decode cX0_lastKind 18 = .ok (.goto 5, 3) := by decide +kernel
theorem dX0_lastKind_21 : decode cX0_lastKind 21 = .ok (.bipush (-9), 2) := by decide +kernel
theorem dX0_lastKind_23 : decode cX0_lastKind 23 = .ok (.ireturn, 1) := by decide +kernel
theorem dX0_lastNumber_0 : decode cX0_lastNumber 0 = .ok (.aload_n 0, 1) := by decide +kernel
theorem dX0_lastNumber_1 : decode cX0_lastNumber 1 = .ok (.getfield 18, 3) := by decide +kernel
theorem dX0_lastNumber_4 : decode cX0_lastNumber 4 = .ok (.ifCond .le 17, 3) := by decide +kernel
theorem dX0_lastNumber_7 : decode cX0_lastNumber 7 = .ok (.aload_n 0, 1) := by decide +kernel
theorem dX0_lastNumber_8 : decode cX0_lastNumber 8 = .ok (.getfield 15, 3) := by decide +kernel
theorem dX0_lastNumber_11 : decode cX0_lastNumber 11 = .ok (.aload_n 0, 1) := by decide +kernel
theorem dX0_lastNumber_12 : decode cX0_lastNumber 12 = .ok (.getfield 18, 3) := by decide +kernel
theorem dX0_lastNumber_15 : decode cX0_lastNumber 15 = .ok (.iconst 1, 1) := by decide +kernel
theorem dX0_lastNumber_16 : decode cX0_lastNumber 16 = .ok (.isub, 1) := by decide +kernel
theorem dX0_lastNumber_17 : decode cX0_lastNumber 17 = .ok (.iaload, 1) := by decide +kernel
theorem dX0_lastNumber_18 : decode cX0_lastNumber 18 = .ok (.goto 5, 3) := by decide +kernel
theorem dX0_lastNumber_21 : decode cX0_lastNumber 21 = .ok (.bipush (-9), 2) := by decide +kernel
theorem dX0_lastNumber_23 : decode cX0_lastNumber 23 = .ok (.ireturn, 1) := by decide +kernel
theorem dX0_removeLast_0 : decode cX0_removeLast 0 = .ok (.aload_n 0, 1) := by decide +kernel
theorem dX0_removeLast_1 : decode cX0_removeLast 1 = .ok (.getfield 18, 3) := by decide +kernel
theorem dX0_removeLast_4 : decode cX0_removeLast 4 = .ok (.ifCond .le 13, 3) := by decide +kernel
theorem dX0_removeLast_7 : decode cX0_removeLast 7 = .ok (.aload_n 0, 1) := by decide +kernel
theorem dX0_removeLast_8 : decode cX0_removeLast 8 = .ok (.dup, 1) := by decide +kernel
theorem dX0_removeLast_9 : decode cX0_removeLast 9 = .ok (.getfield 18, 3) := by decide +kernel
theorem dX0_removeLast_12 : decode cX0_removeLast 12 = .ok (.iconst 1, 1) := by decide +kernel
theorem dX0_removeLast_13 : decode cX0_removeLast 13 = .ok (.isub, 1) := by decide +kernel
theorem dX0_removeLast_14 : decode cX0_removeLast 14 = .ok (.putfield 18, 3) := by decide +kernel
theorem dX0_removeLast_17 : decode cX0_removeLast 17 = .ok (.return_, 1) := by decide +kernel
theorem dX0_forgetFirst_0 : decode cX0_forgetFirst 0 = .ok (.iconst 1, 1) := by decide +kernel
theorem dX0_forgetFirst_1 : decode cX0_forgetFirst 1 = .ok (.istore_n 1, 1) := by decide +kernel
theorem dX0_forgetFirst_2 : decode cX0_forgetFirst 2 = .ok (.iload_n 1, 1) := by decide +kernel
theorem dX0_forgetFirst_3 : decode cX0_forgetFirst 3 = .ok (.bipush 14, 2) := by decide +kernel
theorem dX0_forgetFirst_5 : decode cX0_forgetFirst 5 = .ok (.if_icmp .ge 37, 3) := by decide +kernel
theorem dX0_forgetFirst_8 : decode cX0_forgetFirst 8 = .ok (.aload_n 0, 1) := by decide +kernel
theorem dX0_forgetFirst_9 : decode cX0_forgetFirst 9 = .ok (.getfield 11, 3) := by decide +kernel
theorem dX0_forgetFirst_12 : decode cX0_forgetFirst 12 = .ok (.iload_n 1, 1) := by decide +kernel
theorem dX0_forgetFirst_13 : decode cX0_forgetFirst 13 = .ok (.iconst 1, 1) := by decide +kernel
theorem dX0_forgetFirst_14 : decode cX0_forgetFirst 14 = .ok (.isub, 1) := by decide +kernel
theorem dX0_forgetFirst_15 : decode cX0_forgetFirst 15 = .ok (.aload_n 0, 1) := by decide +kernel
theorem dX0_forgetFirst_16 : decode cX0_forgetFirst 16 = .ok (.getfield 11, 3) := by decide +kernel
theorem dX0_forgetFirst_19 : decode cX0_forgetFirst 19 = .ok (.iload_n 1, 1) := by decide +kernel
theorem dX0_forgetFirst_20 : decode cX0_forgetFirst 20 = .ok (.iaload, 1) := by decide +kernel
theorem dX0_forgetFirst_21 : decode cX0_forgetFirst 21 = .ok (.iastore, 1) := by decide +kernel
theorem dX0_forgetFirst_22 : decode cX0_forgetFirst 22 = .ok (.aload_n 0, 1) := by decide +kernel
theorem dX0_forgetFirst_23 : decode cX0_forgetFirst 23 = .ok (.getfield 15, 3) := by decide +kernel
theorem dX0_forgetFirst_26 : decode cX0_forgetFirst 26 = .ok (.iload_n 1, 1) := by decide +kernel
theorem dX0_forgetFirst_27 : decode cX0_forgetFirst 27 = .ok (.iconst 1, 1) := by decide +kernel
theorem dX0_forgetFirst_28 : decode cX0_forgetFirst 28 = .ok (.isub, 1) := by decide +kernel
theorem dX0_forgetFirst_29 : decode cX0_forgetFirst 29 = .ok (.aload_n 0, 1) := by decide +kernel
theorem dX0_forgetFirst_30 : decode cX0_forgetFirst 30 = .ok (.getfield 15, 3) := by decide +kernel
theorem dX0_forgetFirst_33 : decode cX0_forgetFirst 33 = .ok (.iload_n 1, 1) := by decide +kernel
theorem dX0_forgetFirst_34 : decode cX0_forgetFirst 34 = .ok (.iaload, 1) := by decide +kernel
theorem dX0_forgetFirst_35 : decode cX0_forgetFirst 35 = .ok (.iastore, 1) := by decide +kernel
theorem dX0_forgetFirst_36 : decode cX0_forgetFirst 36 = .ok (.iinc 1 1, 3) := by decide +kernel
theorem dX0_forgetFirst_39 : decode cX0_forgetFirst 39 = .ok (.goto (-37), 3) := by decide +kernel
theorem dX0_forgetFirst_42 : decode cX0_forgetFirst 42 = .ok (.aload_n 0, 1) := by decide +kernel
theorem dX0_forgetFirst_43 : decode cX0_forgetFirst 43 = .ok (.bipush 13, 2) := by decide +kernel
theorem dX0_forgetFirst_45 : decode cX0_forgetFirst 45 = .ok (.putfield 18, 3) := by decide +kernel
theorem dX0_forgetFirst_48 : decode cX0_forgetFirst 48 = .ok (.return_, 1) := by decide +kernel
theorem dX1_init_0 : decode cX1_init 0 = .ok (.aload_n 0, 1) := by decide +kernel
theorem dX1_init_1 : decode cX1_init 1 = .ok (.invokespecial 3, 3) := by decide +kernel
theorem dX1_init_4 : decode cX1_init 4 = .ok (.aload_n 0, 1) := by decide +kernel
theorem dX1_init_5 : decode cX1_init 5 = .ok (.bipush 6, 2) := by decide +kernel
theorem dX1_init_7 : decode cX1_init 7 = .ok (.newarray .int, 2) := by decide +kernel
theorem dX1_init_9 : decode cX1_init 9 = .ok (.putfield 11, 3) := by decide +kernel
theorem dX1_init_12 : decode cX1_init 12 = .ok (.aload_n 0, 1) := by decide +kernel
theorem dX1_init_13 : decode cX1_init 13 = .ok (.bipush 64, 2) := by decide +kernel
theorem dX1_init_15 : decode cX1_init 15 = .ok (.newarray .int, 2) := by decide +kernel
theorem dX1_init_17 : decode cX1_init 17 = .ok (.putfield 15, 3) := by decide +kernel
theorem dX1_init_20 : decode cX1_init 20 = .ok (.aload_n 0, 1) := by decide +kernel
theorem dX1_init_21 : decode cX1_init 21 = .ok (.iconst 0, 1) := by decide +kernel
theorem dX1_init_22 : decode cX1_init 22 = .ok (.putfield 18, 3) := by decide +kernel
theorem dX1_init_25 : decode cX1_init 25 = .ok (.aload_n 0, 1) := by decide +kernel
theorem dX1_init_26 : decode cX1_init 26 = .ok (.bipush (-9), 2) := by decide +kernel
theorem dX1_init_28 : decode cX1_init 28 = .ok (.putfield 22, 3) := by decide +kernel
theorem dX1_init_31 : decode cX1_init 31 = .ok (.return_, 1) := by decide +kernel
set_option maxRecDepth 20000 in
theorem ggX1_play_X1_list : GoodIn wsX1_play wsX1_list := goodIn_r _ [6, 1, 7, 29, 30, 31, 32] (by decide +kernel) (by decide +kernel)
set_option maxRecDepth 20000 in
theorem gX1_play_X1_list : GoodIn wsX1_play (wsV RX1 25 RX1 yX1_list wsX1_list) := goodIn_app (goodIn_of _ (by decide +kernel)) ggX1_play_X1_list
set_option maxRecDepth 20000 in
theorem ggX1_play_J6_bitCount_0f7a4 : GoodIn wsX1_play wsJ6_bitCount_0f7a4 := goodIn_r _ [11, 12, 13, 14] (by decide +kernel) (by decide +kernel)
set_option maxRecDepth 20000 in
theorem gX1_play_J6_bitCount_0f7a4 : GoodIn wsX1_play (va_wsS RX1 29 yJ6_bitCount_0f7a4 wsJ6_bitCount_0f7a4) := goodIn_app (goodIn_of _ (by decide +kernel)) ggX1_play_J6_bitCount_0f7a4
set_option maxRecDepth 20000 in
theorem ggX1_play_X1_settle : GoodIn wsX1_play wsX1_settle := goodIn_r _ [18, 1, 19, 20, 21, 22, 7, 23, 24, 25, 26, 27, 5, 28, 29, 30, 31, 32] (by decide +kernel) (by decide +kernel)
set_option maxRecDepth 20000 in
theorem gX1_play_X1_settle : GoodIn wsX1_play (wsV RX1 35 RX1 yX1_settle wsX1_settle) := goodIn_app (goodIn_of _ (by decide +kernel)) ggX1_play_X1_settle
theorem dX1_play_0 : decode cX1_play 0 = .ok (.aload_n 0, 1) := by decide +kernel
theorem dX1_play_1 : decode cX1_play 1 = .ok (.iload_n 1, 1) := by decide +kernel
theorem dX1_play_2 : decode cX1_play 2 = .ok (.invokevirtual 25, 3) := by decide +kernel
theorem dX1_play_5 : decode cX1_play 5 = .ok (.iconst 1, 1) := by decide +kernel
theorem dX1_play_6 : decode cX1_play 6 = .ok (.istore 4, 2) := by decide +kernel
theorem dX1_play_8 : decode cX1_play 8 = .ok (.iload 4, 2) := by decide +kernel
theorem dX1_play_10 : decode cX1_play 10 = .ok (.iconst 1, 1) := by decide +kernel
theorem dX1_play_11 : decode cX1_play 11 = .ok (.aload_n 0, 1) := by decide +kernel
theorem dX1_play_12 : decode cX1_play 12 = .ok (.getfield 18, 3) := by decide +kernel
theorem dX1_play_15 : decode cX1_play 15 = .ok (.ishl, 1) := by decide +kernel
theorem dX1_play_16 : decode cX1_play 16 = .ok (.if_icmp .ge 47, 3) := by decide +kernel
theorem dX1_play_19 : decode cX1_play 19 = .ok (.aload_n 0, 1) := by decide +kernel
theorem dX1_play_20 : decode cX1_play 20 = .ok (.getfield 18, 3) := by decide +kernel
theorem dX1_play_23 : decode cX1_play 23 = .ok (.iload 4, 2) := by decide +kernel
theorem dX1_play_25 : decode cX1_play 25 = .ok (.invokestatic 29, 3) := by decide +kernel
theorem dX1_play_28 : decode cX1_play 28 = .ok (.isub, 1) := by decide +kernel
theorem dX1_play_29 : decode cX1_play 29 = .ok (.iconst 2, 1) := by decide +kernel
theorem dX1_play_30 : decode cX1_play 30 = .ok (.irem, 1) := by decide +kernel
theorem dX1_play_31 : decode cX1_play 31 = .ok (.ifCond .ne 7, 3) := by decide +kernel
theorem dX1_play_34 : decode cX1_play 34 = .ok (.iconst 1, 1) := by decide +kernel
theorem dX1_play_35 : decode cX1_play 35 = .ok (.goto 4, 3) := by decide +kernel
theorem dX1_play_38 : decode cX1_play 38 = .ok (.iconst 0, 1) := by decide +kernel
theorem dX1_play_39 : decode cX1_play 39 = .ok (.istore 5, 2) := by decide +kernel
theorem dX1_play_41 : decode cX1_play 41 = .ok (.aload_n 0, 1) := by decide +kernel
theorem dX1_play_42 : decode cX1_play 42 = .ok (.iload 4, 2) := by decide +kernel
theorem dX1_play_44 : decode cX1_play 44 = .ok (.iload 5, 2) := by decide +kernel
theorem dX1_play_46 : decode cX1_play 46 = .ok (.ifCond .eq 7, 3) := by decide +kernel
theorem dX1_play_49 : decode cX1_play 49 = .ok (.iload_n 2, 1) := by decide +kernel
theorem dX1_play_50 : decode cX1_play 50 = .ok (.goto 4, 3) := by decide +kernel
theorem dX1_play_53 : decode cX1_play 53 = .ok (.iload_n 3, 1) := by decide +kernel
theorem dX1_play_54 : decode cX1_play 54 = .ok (.invokevirtual 35, 3) := by decide +kernel
theorem dX1_play_57 : decode cX1_play 57 = .ok (.iinc 4 1, 3) := by decide +kernel
theorem dX1_play_60 : decode cX1_play 60 = .ok (.goto (-52), 3) := by decide +kernel
theorem dX1_play_63 : decode cX1_play 63 = .ok (.return_, 1) := by decide +kernel
theorem dX1_lastLeft_0 : decode cX1_lastLeft 0 = .ok (.iconst 1, 1) := by decide +kernel
theorem dX1_lastLeft_1 : decode cX1_lastLeft 1 = .ok (.aload_n 0, 1) := by decide +kernel
theorem dX1_lastLeft_2 : decode cX1_lastLeft 2 = .ok (.getfield 18, 3) := by decide +kernel
theorem dX1_lastLeft_5 : decode cX1_lastLeft 5 = .ok (.ishl, 1) := by decide +kernel
theorem dX1_lastLeft_6 : decode cX1_lastLeft 6 = .ok (.iconst 1, 1) := by decide +kernel
theorem dX1_lastLeft_7 : decode cX1_lastLeft 7 = .ok (.isub, 1) := by decide +kernel
theorem dX1_lastLeft_8 : decode cX1_lastLeft 8 = .ok (.istore_n 1, 1) := by decide +kernel
theorem dX1_lastLeft_9 : decode cX1_lastLeft 9 = .ok (.aload_n 0, 1) := by decide +kernel
theorem dX1_lastLeft_10 : decode cX1_lastLeft 10 = .ok (.getfield 15, 3) := by decide +kernel
theorem dX1_lastLeft_13 : decode cX1_lastLeft 13 = .ok (.iload_n 1, 1) := by decide +kernel
theorem dX1_lastLeft_14 : decode cX1_lastLeft 14 = .ok (.iaload, 1) := by decide +kernel
theorem dX1_lastLeft_15 : decode cX1_lastLeft 15 = .ok (.ireturn, 1) := by decide +kernel
theorem dX1_firstStruck_0 : decode cX1_firstStruck 0 = .ok (.aload_n 0, 1) := by decide +kernel
theorem dX1_firstStruck_1 : decode cX1_firstStruck 1 = .ok (.getfield 22, 3) := by decide +kernel
theorem dX1_firstStruck_4 : decode cX1_firstStruck 4 = .ok (.ireturn, 1) := by decide +kernel
theorem dX1_list_0 : decode cX1_list 0 = .ok (.aload_n 0, 1) := by decide +kernel
theorem dX1_list_1 : decode cX1_list 1 = .ok (.iconst 0, 1) := by decide +kernel
theorem dX1_list_2 : decode cX1_list 2 = .ok (.putfield 18, 3) := by decide +kernel
theorem dX1_list_5 : decode cX1_list 5 = .ok (.iconst 0, 1) := by decide +kernel
theorem dX1_list_6 : decode cX1_list 6 = .ok (.istore_n 2, 1) := by decide +kernel
theorem dX1_list_7 : decode cX1_list 7 = .ok (.iload_n 2, 1) := by decide +kernel
theorem dX1_list_8 : decode cX1_list 8 = .ok (.bipush 13, 2) := by decide +kernel
theorem dX1_list_10 : decode cX1_list 10 = .ok (.if_icmp .ge 46, 3) := by decide +kernel
theorem dX1_list_13 : decode cX1_list 13 = .ok (.iload_n 1, 1) := by decide +kernel
theorem dX1_list_14 : decode cX1_list 14 = .ok (.iload_n 2, 1) := by decide +kernel
theorem dX1_list_15 : decode cX1_list 15 = .ok (.ishr, 1) := by decide +kernel
theorem dX1_list_16 : decode cX1_list 16 = .ok (.iconst 1, 1) := by decide +kernel
theorem dX1_list_17 : decode cX1_list 17 = .ok (.iand, 1) := by decide +kernel
theorem dX1_list_18 : decode cX1_list 18 = .ok (.ifCond .eq 32, 3) := by decide +kernel
theorem dX1_list_21 : decode cX1_list 21 = .ok (.aload_n 0, 1) := by decide +kernel
theorem dX1_list_22 : decode cX1_list 22 = .ok (.getfield 18, 3) := by decide +kernel
theorem dX1_list_25 : decode cX1_list 25 = .ok (.bipush 6, 2) := by decide +kernel
theorem dX1_list_27 : decode cX1_list 27 = .ok (.if_icmp .ge 23, 3) := by decide +kernel
theorem dX1_list_30 : decode cX1_list 30 = .ok (.aload_n 0, 1) := by decide +kernel
theorem dX1_list_31 : decode cX1_list 31 = .ok (.getfield 11, 3) := by decide +kernel
theorem dX1_list_34 : decode cX1_list 34 = .ok (.aload_n 0, 1) := by decide +kernel
theorem dX1_list_35 : decode cX1_list 35 = .ok (.getfield 18, 3) := by decide +kernel
theorem dX1_list_38 : decode cX1_list 38 = .ok (.iload_n 2, 1) := by decide +kernel
theorem dX1_list_39 : decode cX1_list 39 = .ok (.iastore, 1) := by decide +kernel
theorem dX1_list_40 : decode cX1_list 40 = .ok (.aload_n 0, 1) := by decide +kernel
theorem dX1_list_41 : decode cX1_list 41 = .ok (.dup, 1) := by decide +kernel
theorem dX1_list_42 : decode cX1_list 42 = .ok (.getfield 18, 3) := by decide +kernel
theorem dX1_list_45 : decode cX1_list 45 = .ok (.iconst 1, 1) := by decide +kernel
theorem dX1_list_46 : decode cX1_list 46 = .ok (.iadd, 1) := by decide +kernel
theorem dX1_list_47 : decode cX1_list 47 = .ok (.putfield 18, 3) := by decide +kernel
theorem dX1_list_50 : decode cX1_list 50 = .ok (.iinc 2 1, 3) := by decide +kernel
theorem dX1_list_53 : decode cX1_list 53 = .ok (.goto (-46), 3) := by decide +kernel
theorem dX1_list_56 : decode cX1_list 56 = .ok (.return_, 1) := by decide +kernel
set_option maxRecDepth 20000 in
theorem ggX1_settle_X1_lastWithout : GoodIn wsX1_settle wsX1_lastWithout := goodIn_r _ [13, 6, 8, 14, 15, 16, 17] (by decide +kernel) (by decide +kernel)
set_option maxRecDepth 20000 in
theorem gX1_settle_X1_lastWithout : GoodIn wsX1_settle (wsV RX1 39 RX1 yX1_lastWithout wsX1_lastWithout) := goodIn_app (goodIn_of _ (by decide +kernel)) ggX1_settle_X1_lastWithout
theorem dX1_settle_0 : decode cX1_settle 0 = .ok (.bipush (-9), 2) := by decide +kernel
theorem dX1_settle_2 : decode cX1_settle 2 = .ok (.istore_n 3, 1) := by decide +kernel
theorem dX1_settle_3 : decode cX1_settle 3 = .ok (.iconst 0, 1) := by decide +kernel
theorem dX1_settle_4 : decode cX1_settle 4 = .ok (.istore 4, 2) := by decide +kernel
theorem dX1_settle_6 : decode cX1_settle 6 = .ok (.iload 4, 2) := by decide +kernel
theorem dX1_settle_8 : decode cX1_settle 8 = .ok (.aload_n 0, 1) := by decide +kernel
theorem dX1_settle_9 : decode cX1_settle 9 = .ok (.getfield 18, 3) := by decide +kernel
theorem dX1_settle_12 : decode cX1_settle 12 = .ok (.if_icmp .ge 63, 3) := by decide +kernel
theorem dX1_settle_15 : decode cX1_settle 15 = .ok (.iload_n 1, 1) := by decide +kernel
theorem dX1_settle_16 : decode cX1_settle 16 = .ok (.iload 4, 2) := by decide +kernel
theorem dX1_settle_18 : decode cX1_settle 18 = .ok (.ishr, 1) := by decide +kernel
theorem dX1_settle_19 : decode cX1_settle 19 = .ok (.iconst 1, 1) := by decide +kernel
theorem dX1_settle_20 : decode cX1_settle 20 = .ok (.iand, 1) := by decide +kernel
theorem dX1_settle_21 : decode cX1_settle 21 = .ok (.ifCond .eq 48, 3) := by decide +kernel
theorem dX1_settle_24 : decode cX1_settle 24 = .ok (.aload_n 0, 1) := by decide +kernel
theorem dX1_settle_25 : decode cX1_settle 25 = .ok (.iload_n 1, 1) := by decide +kernel
theorem dX1_settle_26 : decode cX1_settle 26 = .ok (.iload 4, 2) := by decide +kernel
theorem dX1_settle_28 : decode cX1_settle 28 = .ok (.invokevirtual 39, 3) := by decide +kernel
theorem dX1_settle_31 : decode cX1_settle 31 = .ok (.istore 5, 2) := by decide +kernel
theorem dX1_settle_33 : decode cX1_settle 33 = .ok (.iload_n 3, 1) := by decide +kernel
theorem dX1_settle_34 : decode cX1_settle 34 = .ok (.bipush (-9), 2) := by decide +kernel
theorem dX1_settle_36 : decode cX1_settle 36 = .ok (.if_icmp .eq 19, 3) := by decide +kernel
theorem dX1_settle_39 : decode cX1_settle 39 = .ok (.iload 5, 2) := by decide +kernel
theorem dX1_settle_41 : decode cX1_settle 41 = .ok (.iload_n 2, 1) := by decide +kernel
theorem dX1_settle_42 : decode cX1_settle 42 = .ok (.isub, 1) := by decide +kernel
theorem dX1_settle_43 : decode cX1_settle 43 = .ok (.invokestatic 43, 3) := by decide +kernel
theorem dX1_settle_46 : decode cX1_settle 46 = .ok (.iload_n 3, 1) := by decide +kernel
theorem dX1_settle_47 : decode cX1_settle 47 = .ok (.iload_n 2, 1) := by decide +kernel
theorem dX1_settle_48 : decode cX1_settle 48 = .ok (.isub, 1) := by decide +kernel
theorem dX1_settle_49 : decode cX1_settle 49 = .ok (.invokestatic 43, 3) := by decide +kernel
theorem dX1_settle_52 : decode cX1_settle 52 = .ok (.if_icmp .ge 17, 3) := by decide +kernel
theorem dX1_settle_55 : decode cX1_settle 55 = .ok (.iload 5, 2) := by decide +kernel
theorem dX1_settle_57 : decode cX1_settle 57 = .ok (.istore_n 3, 1) := by decide +kernel
theorem dX1_settle_58 : decode cX1_settle 58 = .ok (.aload_n 0, 1) := by decide +kernel
theorem dX1_settle_59 : decode cX1_settle 59 = .ok (.aload_n 0, 1) := by decide +kernel
theorem dX1_settle_60 : decode cX1_settle 60 = .ok (.getfield 11, 3) := by decide +kernel
theorem dX1_settle_63 : decode cX1_settle 63 = .ok (.iload 4, 2) := by decide +kernel
theorem dX1_settle_65 : decode cX1_settle 65 = .ok (.iaload, 1) := by decide +kernel
theorem dX1_settle_66 : decode cX1_settle 66 = .ok (.putfield 22, 3) := by decide +kernel
theorem dX1_settle_69 : decode cX1_settle 69 = .ok (.iinc 4 1, 3) := by decide +kernel
theorem dX1_settle_72 : decode cX1_settle 72 = .ok (.goto (-66), 3) := by decide +kernel
theorem dX1_settle_75 : decode cX1_settle 75 = .ok (.aload_n 0, 1) := by decide +kernel
theorem dX1_settle_76 : decode cX1_settle 76 = .ok (.getfield 15, 3) := by decide +kernel
theorem dX1_settle_79 : decode cX1_settle 79 = .ok (.iload_n 1, 1) := by decide +kernel
theorem dX1_settle_80 : decode cX1_settle 80 = .ok (.iload_n 3, 1) := by decide +kernel
theorem dX1_settle_81 : decode cX1_settle 81 = .ok (.iastore, 1) := by decide +kernel
theorem dX1_settle_82 : decode cX1_settle 82 = .ok (.return_, 1) := by decide +kernel
theorem dX1_lastWithout_0 : decode cX1_lastWithout 0 = .ok (.iload_n 1, 1) := by decide +kernel
theorem dX1_lastWithout_1 : decode cX1_lastWithout 1 = .ok (.iconst 1, 1) := by decide +kernel
theorem dX1_lastWithout_2 : decode cX1_lastWithout 2 = .ok (.iload_n 2, 1) := by decide +kernel
theorem dX1_lastWithout_3 : decode cX1_lastWithout 3 = .ok (.ishl, 1) := by decide +kernel
theorem dX1_lastWithout_4 : decode cX1_lastWithout 4 = .ok (.ixor, 1) := by decide +kernel
theorem dX1_lastWithout_5 : decode cX1_lastWithout 5 = .ok (.istore_n 3, 1) := by decide +kernel
theorem dX1_lastWithout_6 : decode cX1_lastWithout 6 = .ok (.iload_n 3, 1) := by decide +kernel
theorem dX1_lastWithout_7 : decode cX1_lastWithout 7 = .ok (.ifCond .ne 12, 3) := by decide +kernel
theorem dX1_lastWithout_10 : decode cX1_lastWithout 10 = .ok (.aload_n 0, 1) := by decide +kernel
theorem dX1_lastWithout_11 : decode cX1_lastWithout 11 = .ok (.getfield 11, 3) := by decide +kernel
theorem dX1_lastWithout_14 : decode cX1_lastWithout 14 = .ok (.iload_n 2, 1) := by decide +kernel
theorem dX1_lastWithout_15 : decode cX1_lastWithout 15 = .ok (.iaload, 1) := by decide +kernel
theorem dX1_lastWithout_16 : decode cX1_lastWithout 16 = .ok (.goto 9, 3) := by decide +kernel
theorem dX1_lastWithout_19 : decode cX1_lastWithout 19 = .ok (.aload_n 0, 1) := by decide +kernel
theorem dX1_lastWithout_20 : decode cX1_lastWithout 20 = .ok (.getfield 15, 3) := by decide +kernel
theorem dX1_lastWithout_23 : decode cX1_lastWithout 23 = .ok (.iload_n 3, 1) := by decide +kernel
theorem dX1_lastWithout_24 : decode cX1_lastWithout 24 = .ok (.iaload, 1) := by decide +kernel
theorem dX1_lastWithout_25 : decode cX1_lastWithout 25 = .ok (.ireturn, 1) := by decide +kernel
theorem dX2_init_0 : decode cX2_init 0 = .ok (.aload_n 0, 1) := by decide +kernel
theorem dX2_init_1 : decode cX2_init 1 = .ok (.invokespecial 3, 3) := by decide +kernel
theorem dX2_init_4 : decode cX2_init 4 = .ok (.aload_n 0, 1) := by decide +kernel
theorem dX2_init_5 : decode cX2_init 5 = .ok (.bipush 6, 2) := by decide +kernel
theorem dX2_init_7 : decode cX2_init 7 = .ok (.newarray .int, 2) := by decide +kernel
theorem dX2_init_9 : decode cX2_init 9 = .ok (.putfield 11, 3) := by decide +kernel
theorem dX2_init_12 : decode cX2_init 12 = .ok (.aload_n 0, 1) := by decide +kernel
theorem dX2_init_13 : decode cX2_init 13 = .ok (.bipush 6, 2) := by decide +kernel
theorem dX2_init_15 : decode cX2_init 15 = .ok (.newarray .int, 2) := by decide +kernel
theorem dX2_init_17 : decode cX2_init 17 = .ok (.putfield 15, 3) := by decide +kernel
theorem dX2_init_20 : decode cX2_init 20 = .ok (.aload_n 0, 1) := by decide +kernel
theorem dX2_init_21 : decode cX2_init 21 = .ok (.iconst 0, 1) := by decide +kernel
theorem dX2_init_22 : decode cX2_init 22 = .ok (.putfield 18, 3) := by decide +kernel
theorem dX2_init_25 : decode cX2_init 25 = .ok (.return_, 1) := by decide +kernel
theorem dX2_size_0 : decode cX2_size 0 = .ok (.aload_n 0, 1) := by decide +kernel
theorem dX2_size_1 : decode cX2_size 1 = .ok (.getfield 18, 3) := by decide +kernel
theorem dX2_size_4 : decode cX2_size 4 = .ok (.ireturn, 1) := by decide +kernel
theorem dX2_isFull_0 : decode cX2_isFull 0 = .ok (.aload_n 0, 1) := by decide +kernel
theorem dX2_isFull_1 : decode cX2_isFull 1 = .ok (.getfield 18, 3) := by decide +kernel
theorem dX2_isFull_4 : decode cX2_isFull 4 = .ok (.bipush 6, 2) := by decide +kernel
theorem dX2_isFull_6 : decode cX2_isFull 6 = .ok (.if_icmp .lt 7, 3) := by decide +kernel
theorem dX2_isFull_9 : decode cX2_isFull 9 = .ok (.iconst 1, 1) := by decide +kernel
theorem dX2_isFull_10 : decode cX2_isFull 10 = .ok (.goto 4, 3) := by decide +kernel
theorem dX2_isFull_13 : decode cX2_isFull 13 = .ok (.iconst 0, 1) := by decide +kernel
theorem dX2_isFull_14 : decode cX2_isFull 14 = .ok (.ireturn, 1) := by decide +kernel
theorem dX2_clear_0 : decode cX2_clear 0 = .ok (.aload_n 0, 1) := by decide +kernel
theorem dX2_clear_1 : decode cX2_clear 1 = .ok (.iconst 0, 1) := by decide +kernel
theorem dX2_clear_2 : decode cX2_clear 2 = .ok (.putfield 18, 3) := by decide +kernel
theorem dX2_clear_5 : decode cX2_clear 5 = .ok (.return_, 1) := by decide +kernel
set_option maxRecDepth 20000 in
theorem ggX2_add_X2_isFull : GoodIn wsX2_add wsX2_isFull := goodIn_r _ [8, 2, 9, 10, 11] (by decide +kernel) (by decide +kernel)
set_option maxRecDepth 20000 in
theorem gX2_add_X2_isFull : GoodIn wsX2_add (wsV RX2 22 RX2 yX2_isFull wsX2_isFull) := goodIn_app (goodIn_of _ (by decide +kernel)) ggX2_add_X2_isFull
theorem dX2_add_0 : decode cX2_add 0 = .ok (.aload_n 0, 1) := by decide +kernel
theorem dX2_add_1 : decode cX2_add 1 = .ok (.invokevirtual 22, 3) := by decide +kernel
theorem dX2_add_4 : decode cX2_add 4 = .ok (.ifCond .ne 33, 3) := by decide +kernel
theorem dX2_add_7 : decode cX2_add 7 = .ok (.aload_n 0, 1) := by decide +kernel
theorem dX2_add_8 : decode cX2_add 8 = .ok (.getfield 11, 3) := by decide +kernel
theorem dX2_add_11 : decode cX2_add 11 = .ok (.aload_n 0, 1) := by decide +kernel
theorem dX2_add_12 : decode cX2_add 12 = .ok (.getfield 18, 3) := by decide +kernel
theorem dX2_add_15 : decode cX2_add 15 = .ok (.iload_n 1, 1) := by decide +kernel
theorem dX2_add_16 : decode cX2_add 16 = .ok (.iastore, 1) := by decide +kernel
theorem dX2_add_17 : decode cX2_add 17 = .ok (.aload_n 0, 1) := by decide +kernel
theorem dX2_add_18 : decode cX2_add 18 = .ok (.getfield 15, 3) := by decide +kernel
theorem dX2_add_21 : decode cX2_add 21 = .ok (.aload_n 0, 1) := by decide +kernel
theorem dX2_add_22 : decode cX2_add 22 = .ok (.getfield 18, 3) := by decide +kernel
theorem dX2_add_25 : decode cX2_add 25 = .ok (.iload_n 2, 1) := by decide +kernel
theorem dX2_add_26 : decode cX2_add 26 = .ok (.iastore, 1) := by decide +kernel
theorem dX2_add_27 : decode cX2_add 27 = .ok (.aload_n 0, 1) := by decide +kernel
theorem dX2_add_28 : decode cX2_add 28 = .ok (.dup, 1) := by decide +kernel
theorem dX2_add_29 : decode cX2_add 29 = .ok (.getfield 18, 3) := by decide +kernel
theorem dX2_add_32 : decode cX2_add 32 = .ok (.iconst 1, 1) := by decide +kernel
theorem dX2_add_33 : decode cX2_add 33 = .ok (.iadd, 1) := by decide +kernel
theorem dX2_add_34 : decode cX2_add 34 = .ok (.putfield 18, 3) := by decide +kernel
theorem dX2_add_37 : decode cX2_add 37 = .ok (.return_, 1) := by decide +kernel
theorem dX2_contractAt_0 : decode cX2_contractAt 0 = .ok (.iload_n 1, 1) := by decide +kernel
theorem dX2_contractAt_1 : decode cX2_contractAt 1 = .ok (.ifCond .lt 20, 3) := by decide +kernel
theorem dX2_contractAt_4 : decode cX2_contractAt 4 = .ok (.iload_n 1, 1) := by decide +kernel
theorem dX2_contractAt_5 : decode cX2_contractAt 5 = .ok (.aload_n 0, 1) := by decide +kernel
theorem dX2_contractAt_6 : decode cX2_contractAt 6 = .ok (.getfield 18, 3) := by decide +kernel
theorem dX2_contractAt_9 : decode cX2_contractAt 9 = .ok (.if_icmp .ge 12, 3) := by decide +kernel
theorem dX2_contractAt_12 : decode cX2_contractAt 12 = .ok (.aload_n 0, 1) := by decide +kernel
theorem dX2_contractAt_13 : decode cX2_contractAt 13 = .ok (.getfield 11, 3) := by decide +kernel
theorem dX2_contractAt_16 : decode cX2_contractAt 16 = .ok (.iload_n 1, 1) := by decide +kernel
theorem dX2_contractAt_17 : decode cX2_contractAt 17 = .ok (.iaload, 1) := by decide +kernel
theorem dX2_contractAt_18 : decode cX2_contractAt 18 = .ok (.goto 5, 3) := by decide +kernel
theorem dX2_contractAt_21 : decode cX2_contractAt 21 = .ok (.bipush (-9), 2) := by decide +kernel
theorem dX2_contractAt_23 : decode cX2_contractAt 23 = .ok (.ireturn, 1) := by decide +kernel
theorem dX2_dayAt_0 : decode cX2_dayAt 0 = .ok (.iload_n 1, 1) := by decide +kernel
theorem dX2_dayAt_1 : decode cX2_dayAt 1 = .ok (.ifCond .lt 20, 3) := by decide +kernel
theorem dX2_dayAt_4 : decode cX2_dayAt 4 = .ok (.iload_n 1, 1) := by decide +kernel
theorem dX2_dayAt_5 : decode cX2_dayAt 5 = .ok (.aload_n 0, 1) := by decide +kernel
theorem dX2_dayAt_6 : decode cX2_dayAt 6 = .ok (.getfield 18, 3) := by decide +kernel
theorem dX2_dayAt_9 : decode cX2_dayAt 9 = .ok (.if_icmp .ge 12, 3) := by decide +kernel
theorem dX2_dayAt_12 : decode cX2_dayAt 12 = .ok (.aload_n 0, 1) := by decide +kernel
theorem dX2_dayAt_13 : decode cX2_dayAt 13 = .ok (.getfield 15, 3) := by decide +kernel
theorem dX2_dayAt_16 : decode cX2_dayAt 16 = .ok (.iload_n 1, 1) := by decide +kernel
theorem dX2_dayAt_17 : decode cX2_dayAt 17 = .ok (.iaload, 1) := by decide +kernel
theorem dX2_dayAt_18 : decode cX2_dayAt 18 = .ok (.goto 5, 3) := by decide +kernel
theorem dX2_dayAt_21 : decode cX2_dayAt 21 = .ok (.bipush (-9), 2) := by decide +kernel
theorem dX2_dayAt_23 : decode cX2_dayAt 23 = .ok (.ireturn, 1) := by decide +kernel
theorem dX3_init_0 : decode cX3_init 0 = .ok (.aload_n 0, 1) := by decide +kernel
theorem dX3_init_1 : decode cX3_init 1 = .ok (.invokespecial 3, 3) := by decide +kernel
theorem dX3_init_4 : decode cX3_init 4 = .ok (.aload_n 0, 1) := by decide +kernel
theorem dX3_init_5 : decode cX3_init 5 = .ok (.bipush 13, 2) := by decide +kernel
theorem dX3_init_7 : decode cX3_init 7 = .ok (.putfield 9, 3) := by decide +kernel
theorem dX3_init_10 : decode cX3_init 10 = .ok (.aload_n 0, 1) := by decide +kernel
theorem dX3_init_11 : decode cX3_init 11 = .ok (.iconst 0, 1) := by decide +kernel
theorem dX3_init_12 : decode cX3_init 12 = .ok (.putfield 15, 3) := by decide +kernel
theorem dX3_init_15 : decode cX3_init 15 = .ok (.aload_n 0, 1) := by decide +kernel
theorem dX3_init_16 : decode cX3_init 16 = .ok (.iconst 0, 1) := by decide +kernel
theorem dX3_init_17 : decode cX3_init 17 = .ok (.putfield 18, 3) := by decide +kernel
theorem dX3_init_20 : decode cX3_init 20 = .ok (.return_, 1) := by decide +kernel
theorem dX3_begin_0 : decode cX3_begin 0 = .ok (.aload_n 0, 1) := by decide +kernel
theorem dX3_begin_1 : decode cX3_begin 1 = .ok (.bipush 13, 2) := by decide +kernel
theorem dX3_begin_3 : decode cX3_begin 3 = .ok (.putfield 9, 3) := by decide +kernel
theorem dX3_begin_6 : decode cX3_begin 6 = .ok (.aload_n 0, 1) := by decide +kernel
theorem dX3_begin_7 : decode cX3_begin 7 = .ok (.iconst 0, 1) := by decide +kernel
theorem dX3_begin_8 : decode cX3_begin 8 = .ok (.putfield 15, 3) := by decide +kernel
theorem dX3_begin_11 : decode cX3_begin 11 = .ok (.aload_n 0, 1) := by decide +kernel
theorem dX3_begin_12 : decode cX3_begin 12 = .ok (.iload_n 1, 1) := by decide +kernel
theorem dX3_begin_13 : decode cX3_begin 13 = .ok (.putfield 18, 3) := by decide +kernel
theorem dX3_begin_16 : decode cX3_begin 16 = .ok (.return_, 1) := by decide +kernel
theorem dX3_copyFrom_0 : decode cX3_copyFrom 0 = .ok (.aload_n 0, 1) := by decide +kernel
theorem dX3_copyFrom_1 : decode cX3_copyFrom 1 = .ok (.aload_n 1, 1) := by decide +kernel
theorem dX3_copyFrom_2 : decode cX3_copyFrom 2 = .ok (.getfield 9, 3) := by decide +kernel
theorem dX3_copyFrom_5 : decode cX3_copyFrom 5 = .ok (.putfield 9, 3) := by decide +kernel
theorem dX3_copyFrom_8 : decode cX3_copyFrom 8 = .ok (.aload_n 0, 1) := by decide +kernel
theorem dX3_copyFrom_9 : decode cX3_copyFrom 9 = .ok (.aload_n 1, 1) := by decide +kernel
theorem dX3_copyFrom_10 : decode cX3_copyFrom 10 = .ok (.getfield 15, 3) := by decide +kernel
theorem dX3_copyFrom_13 : decode cX3_copyFrom 13 = .ok (.putfield 15, 3) := by decide +kernel
theorem dX3_copyFrom_16 : decode cX3_copyFrom 16 = .ok (.aload_n 0, 1) := by decide +kernel
theorem dX3_copyFrom_17 : decode cX3_copyFrom 17 = .ok (.aload_n 1, 1) := by decide +kernel
theorem dX3_copyFrom_18 : decode cX3_copyFrom 18 = .ok (.getfield 18, 3) := by decide +kernel
theorem dX3_copyFrom_21 : decode cX3_copyFrom 21 = .ok (.putfield 18, 3) := by decide +kernel
theorem dX3_copyFrom_24 : decode cX3_copyFrom 24 = .ok (.return_, 1) := by decide +kernel
theorem dX3_isVoid_0 : decode cX3_isVoid 0 = .ok (.aload_n 0, 1) := by decide +kernel
theorem dX3_isVoid_1 : decode cX3_isVoid 1 = .ok (.getfield 15, 3) := by decide +kernel
theorem dX3_isVoid_4 : decode cX3_isVoid 4 = .ok (.iload_n 1, 1) := by decide +kernel
theorem dX3_isVoid_5 : decode cX3_isVoid 5 = .ok (.ishr, 1) := by decide +kernel
theorem dX3_isVoid_6 : decode cX3_isVoid 6 = .ok (.iconst 1, 1) := by decide +kernel
theorem dX3_isVoid_7 : decode cX3_isVoid 7 = .ok (.iand, 1) := by decide +kernel
theorem dX3_isVoid_8 : decode cX3_isVoid 8 = .ok (.ifCond .eq 7, 3) := by decide +kernel
theorem dX3_isVoid_11 : decode cX3_isVoid 11 = .ok (.iconst 1, 1) := by decide +kernel
theorem dX3_isVoid_12 : decode cX3_isVoid 12 = .ok (.goto 4, 3) := by decide +kernel
theorem dX3_isVoid_15 : decode cX3_isVoid 15 = .ok (.iconst 0, 1) := by decide +kernel
theorem dX3_isVoid_16 : decode cX3_isVoid 16 = .ok (.ireturn, 1) := by decide +kernel
theorem dX3_turnVoided_0 : decode cX3_turnVoided 0 = .ok (.aload_n 0, 1) := by decide +kernel
theorem dX3_turnVoided_1 : decode cX3_turnVoided 1 = .ok (.dup, 1) := by decide +kernel
theorem dX3_turnVoided_2 : decode cX3_turnVoided 2 = .ok (.getfield 15, 3) := by decide +kernel
theorem dX3_turnVoided_5 : decode cX3_turnVoided 5 = .ok (.iconst 1, 1) := by decide +kernel
theorem dX3_turnVoided_6 : decode cX3_turnVoided 6 = .ok (.iload_n 1, 1) := by decide +kernel
theorem dX3_turnVoided_7 : decode cX3_turnVoided 7 = .ok (.ishl, 1) := by decide +kernel
theorem dX3_turnVoided_8 : decode cX3_turnVoided 8 = .ok (.ixor, 1) := by decide +kernel
theorem dX3_turnVoided_9 : decode cX3_turnVoided 9 = .ok (.putfield 15, 3) := by decide +kernel
theorem dX3_turnVoided_12 : decode cX3_turnVoided 12 = .ok (.return_, 1) := by decide +kernel
theorem dX3_isByCount_0 : decode cX3_isByCount 0 = .ok (.aload_n 0, 1) := by decide +kernel
theorem dX3_isByCount_1 : decode cX3_isByCount 1 = .ok (.getfield 18, 3) := by decide +kernel
theorem dX3_isByCount_4 : decode cX3_isByCount 4 = .ok (.iload_n 1, 1) := by decide +kernel
theorem dX3_isByCount_5 : decode cX3_isByCount 5 = .ok (.ishr, 1) := by decide +kernel
theorem dX3_isByCount_6 : decode cX3_isByCount 6 = .ok (.iconst 1, 1) := by decide +kernel
theorem dX3_isByCount_7 : decode cX3_isByCount 7 = .ok (.iand, 1) := by decide +kernel
theorem dX3_isByCount_8 : decode cX3_isByCount 8 = .ok (.ifCond .eq 7, 3) := by decide +kernel
theorem dX3_isByCount_11 : decode cX3_isByCount 11 = .ok (.iconst 1, 1) := by decide +kernel
theorem dX3_isByCount_12 : decode cX3_isByCount 12 = .ok (.goto 4, 3) := by decide +kernel
theorem dX3_isByCount_15 : decode cX3_isByCount 15 = .ok (.iconst 0, 1) := by decide +kernel
theorem dX3_isByCount_16 : decode cX3_isByCount 16 = .ok (.ireturn, 1) := by decide +kernel
theorem dX3_turnReading_0 : decode cX3_turnReading 0 = .ok (.aload_n 0, 1) := by decide +kernel
theorem dX3_turnReading_1 : decode cX3_turnReading 1 = .ok (.dup, 1) := by decide +kernel
theorem dX3_turnReading_2 : decode cX3_turnReading 2 = .ok (.getfield 18, 3) := by decide +kernel
theorem dX3_turnReading_5 : decode cX3_turnReading 5 = .ok (.iconst 1, 1) := by decide +kernel
theorem dX3_turnReading_6 : decode cX3_turnReading 6 = .ok (.iload_n 1, 1) := by decide +kernel
theorem dX3_turnReading_7 : decode cX3_turnReading 7 = .ok (.ishl, 1) := by decide +kernel
theorem dX3_turnReading_8 : decode cX3_turnReading 8 = .ok (.ixor, 1) := by decide +kernel
theorem dX3_turnReading_9 : decode cX3_turnReading 9 = .ok (.putfield 18, 3) := by decide +kernel
theorem dX3_turnReading_12 : decode cX3_turnReading 12 = .ok (.return_, 1) := by decide +kernel
theorem dX4_init_0 : decode cX4_init 0 = .ok (.aload_n 0, 1) := by decide +kernel
theorem dX4_init_1 : decode cX4_init 1 = .ok (.invokespecial 3, 3) := by decide +kernel
theorem dX4_init_4 : decode cX4_init 4 = .ok (.aload_n 0, 1) := by decide +kernel
theorem dX4_init_5 : decode cX4_init 5 = .ok (.bipush 64, 2) := by decide +kernel
theorem dX4_init_7 : decode cX4_init 7 = .ok (.newarray .int, 2) := by decide +kernel
theorem dX4_init_9 : decode cX4_init 9 = .ok (.putfield 11, 3) := by decide +kernel
theorem dX4_init_12 : decode cX4_init 12 = .ok (.aload_n 0, 1) := by decide +kernel
theorem dX4_init_13 : decode cX4_init 13 = .ok (.iconst 0, 1) := by decide +kernel
theorem dX4_init_14 : decode cX4_init 14 = .ok (.putfield 15, 3) := by decide +kernel
theorem dX4_init_17 : decode cX4_init 17 = .ok (.return_, 1) := by decide +kernel
theorem dX4_length_0 : decode cX4_length 0 = .ok (.aload_n 0, 1) := by decide +kernel
theorem dX4_length_1 : decode cX4_length 1 = .ok (.getfield 15, 3) := by decide +kernel
theorem dX4_length_4 : decode cX4_length 4 = .ok (.ireturn, 1) := by decide +kernel
theorem dX4_isFull_0 : decode cX4_isFull 0 = .ok (.aload_n 0, 1) := by decide +kernel
theorem dX4_isFull_1 : decode cX4_isFull 1 = .ok (.getfield 15, 3) := by decide +kernel
theorem dX4_isFull_4 : decode cX4_isFull 4 = .ok (.bipush 64, 2) := by decide +kernel
theorem dX4_isFull_6 : decode cX4_isFull 6 = .ok (.if_icmp .lt 7, 3) := by decide +kernel
theorem dX4_isFull_9 : decode cX4_isFull 9 = .ok (.iconst 1, 1) := by decide +kernel
theorem dX4_isFull_10 : decode cX4_isFull 10 = .ok (.goto 4, 3) := by decide +kernel
theorem dX4_isFull_13 : decode cX4_isFull 13 = .ok (.iconst 0, 1) := by decide +kernel
theorem dX4_isFull_14 : decode cX4_isFull 14 = .ok (.ireturn, 1) := by decide +kernel
set_option maxRecDepth 20000 in
theorem ggX4_append_X4_isFull : GoodIn wsX4_append wsX4_isFull := goodIn_r _ [7, 2, 8, 9] (by decide +kernel) (by decide +kernel)
set_option maxRecDepth 20000 in
theorem gX4_append_X4_isFull : GoodIn wsX4_append (wsV RX4 19 RX4 yX4_isFull wsX4_isFull) := goodIn_app (goodIn_of _ (by decide +kernel)) ggX4_append_X4_isFull
theorem dX4_append_0 : decode cX4_append 0 = .ok (.aload_n 0, 1) := by decide +kernel
theorem dX4_append_1 : decode cX4_append 1 = .ok (.invokevirtual 19, 3) := by decide +kernel
theorem dX4_append_4 : decode cX4_append 4 = .ok (.ifCond .ne 23, 3) := by decide +kernel
theorem dX4_append_7 : decode cX4_append 7 = .ok (.aload_n 0, 1) := by decide +kernel
theorem dX4_append_8 : decode cX4_append 8 = .ok (.getfield 11, 3) := by decide +kernel
theorem dX4_append_11 : decode cX4_append 11 = .ok (.aload_n 0, 1) := by decide +kernel
theorem dX4_append_12 : decode cX4_append 12 = .ok (.getfield 15, 3) := by decide +kernel
theorem dX4_append_15 : decode cX4_append 15 = .ok (.iload_n 1, 1) := by decide +kernel
theorem dX4_append_16 : decode cX4_append 16 = .ok (.iastore, 1) := by decide +kernel
theorem dX4_append_17 : decode cX4_append 17 = .ok (.aload_n 0, 1) := by decide +kernel
theorem dX4_append_18 : decode cX4_append 18 = .ok (.dup, 1) := by decide +kernel
theorem dX4_append_19 : decode cX4_append 19 = .ok (.getfield 15, 3) := by decide +kernel
theorem dX4_append_22 : decode cX4_append 22 = .ok (.iconst 1, 1) := by decide +kernel
theorem dX4_append_23 : decode cX4_append 23 = .ok (.iadd, 1) := by decide +kernel
theorem dX4_append_24 : decode cX4_append 24 = .ok (.putfield 15, 3) := by decide +kernel
theorem dX4_append_27 : decode cX4_append 27 = .ok (.return_, 1) := by decide +kernel
theorem dX4_clear_0 : decode cX4_clear 0 = .ok (.aload_n 0, 1) := by decide +kernel
theorem dX4_clear_1 : decode cX4_clear 1 = .ok (.iconst 0, 1) := by decide +kernel
theorem dX4_clear_2 : decode cX4_clear 2 = .ok (.putfield 15, 3) := by decide +kernel
theorem dX4_clear_5 : decode cX4_clear 5 = .ok (.return_, 1) := by decide +kernel
theorem dX4_at_0 : decode cX4_at 0 = .ok (.iload_n 1, 1) := by decide +kernel
theorem dX4_at_1 : decode cX4_at 1 = .ok (.ifCond .lt 20, 3) := by decide +kernel
theorem dX4_at_4 : decode cX4_at 4 = .ok (.iload_n 1, 1) := by decide +kernel
theorem dX4_at_5 : decode cX4_at 5 = .ok (.aload_n 0, 1) := by decide +kernel
theorem dX4_at_6 : decode cX4_at 6 = .ok (.getfield 15, 3) := by decide +kernel
theorem dX4_at_9 : decode cX4_at 9 = .ok (.if_icmp .ge 12, 3) := by decide +kernel
theorem dX4_at_12 : decode cX4_at 12 = .ok (.aload_n 0, 1) := by decide +kernel
theorem dX4_at_13 : decode cX4_at 13 = .ok (.getfield 11, 3) := by decide +kernel
theorem dX4_at_16 : decode cX4_at 16 = .ok (.iload_n 1, 1) := by decide +kernel
theorem dX4_at_17 : decode cX4_at 17 = .ok (.iaload, 1) := by decide +kernel
theorem dX4_at_18 : decode cX4_at 18 = .ok (.goto 5, 3) := by decide +kernel
theorem dX4_at_21 : decode cX4_at 21 = .ok (.bipush (-9), 2) := by decide +kernel
theorem dX4_at_23 : decode cX4_at 23 = .ok (.ireturn, 1) := by decide +kernel
theorem dX5_init_0 : decode cX5_init 0 = .ok (.aload_n 0, 1) := by decide +kernel
theorem dX5_init_1 : decode cX5_init 1 = .ok (.invokespecial 5, 3) := by decide +kernel
theorem dX5_init_4 : decode cX5_init 4 = .ok (.aload_n 0, 1) := by decide +kernel
theorem dX5_init_5 : decode cX5_init 5 = .ok (.iconst 4, 1) := by decide +kernel
theorem dX5_init_6 : decode cX5_init 6 = .ok (.newarray .int, 2) := by decide +kernel
theorem dX5_init_8 : decode cX5_init 8 = .ok (.putfield 11, 3) := by decide +kernel
theorem dX5_init_11 : decode cX5_init 11 = .ok (.aload_n 0, 1) := by decide +kernel
theorem dX5_init_12 : decode cX5_init 12 = .ok (.bipush 120, 2) := by decide +kernel
theorem dX5_init_14 : decode cX5_init 14 = .ok (.newarray .int, 2) := by decide +kernel
theorem dX5_init_16 : decode cX5_init 16 = .ok (.putfield 15, 3) := by decide +kernel
theorem dX5_init_19 : decode cX5_init 19 = .ok (.return_, 1) := by decide +kernel
theorem dX5_sizeOf_0 : decode cX5_sizeOf 0 = .ok (.iload_n 1, 1) := by decide +kernel
theorem dX5_sizeOf_1 : decode cX5_sizeOf 1 = .ok (.ifCond .lt 17, 3) := by decide +kernel
theorem dX5_sizeOf_4 : decode cX5_sizeOf 4 = .ok (.iload_n 1, 1) := by decide +kernel
theorem dX5_sizeOf_5 : decode cX5_sizeOf 5 = .ok (.iconst 4, 1) := by decide +kernel
theorem dX5_sizeOf_6 : decode cX5_sizeOf 6 = .ok (.if_icmp .ge 12, 3) := by decide +kernel
theorem dX5_sizeOf_9 : decode cX5_sizeOf 9 = .ok (.aload_n 0, 1) := by decide +kernel
theorem dX5_sizeOf_10 : decode cX5_sizeOf 10 = .ok (.getfield 11, 3) := by decide +kernel
theorem dX5_sizeOf_13 : decode cX5_sizeOf 13 = .ok (.iload_n 1, 1) := by decide +kernel
theorem dX5_sizeOf_14 : decode cX5_sizeOf 14 = .ok (.iaload, 1) := by decide +kernel
theorem dX5_sizeOf_15 : decode cX5_sizeOf 15 = .ok (.goto 4, 3) := by decide +kernel
theorem dX5_sizeOf_18 : decode cX5_sizeOf 18 = .ok (.iconst 0, 1) := by decide +kernel
theorem dX5_sizeOf_19 : decode cX5_sizeOf 19 = .ok (.ireturn, 1) := by decide +kernel
set_option maxRecDepth 20000 in
theorem ggX5_startOf_X5_valueAt : GoodIn wsX5_startOf wsX5_valueAt := goodIn_r _ [5, 6, 7, 8, 4, 9, 10, 11] (by decide +kernel) (by decide +kernel)
set_option maxRecDepth 20000 in
theorem gX5_startOf_X5_valueAt : GoodIn wsX5_startOf (wsV RX5 18 RX5 yX5_valueAt wsX5_valueAt) := goodIn_app (goodIn_of _ (by decide +kernel)) ggX5_startOf_X5_valueAt
theorem dX5_startOf_0 : decode cX5_startOf 0 = .ok (.aload_n 0, 1) := by decide +kernel
theorem dX5_startOf_1 : decode cX5_startOf 1 = .ok (.iconst 0, 1) := by decide +kernel
theorem dX5_startOf_2 : decode cX5_startOf 2 = .ok (.iload_n 1, 1) := by decide +kernel
theorem dX5_startOf_3 : decode cX5_startOf 3 = .ok (.iconst 0, 1) := by decide +kernel
theorem dX5_startOf_4 : decode cX5_startOf 4 = .ok (.invokevirtual 18, 3) := by decide +kernel
theorem dX5_startOf_7 : decode cX5_startOf 7 = .ok (.ireturn, 1) := by decide +kernel
set_option maxRecDepth 20000 in
theorem ggX5_lengthOf_X5_valueAt : GoodIn wsX5_lengthOf wsX5_valueAt := goodIn_r _ [5, 6, 7, 8, 4, 9, 10, 11] (by decide +kernel) (by decide +kernel)
set_option maxRecDepth 20000 in
theorem gX5_lengthOf_X5_valueAt : GoodIn wsX5_lengthOf (wsV RX5 18 RX5 yX5_valueAt wsX5_valueAt) := goodIn_app (goodIn_of _ (by decide +kernel)) ggX5_lengthOf_X5_valueAt
theorem dX5_lengthOf_0 : decode cX5_lengthOf 0 = .ok (.aload_n 0, 1) := by decide +kernel
theorem dX5_lengthOf_1 : decode cX5_lengthOf 1 = .ok (.iconst 0, 1) := by decide +kernel
theorem dX5_lengthOf_2 : decode cX5_lengthOf 2 = .ok (.iload_n 1, 1) := by decide +kernel
theorem dX5_lengthOf_3 : decode cX5_lengthOf 3 = .ok (.iconst 2, 1) := by decide +kernel
theorem dX5_lengthOf_4 : decode cX5_lengthOf 4 = .ok (.invokevirtual 18, 3) := by decide +kernel
theorem dX5_lengthOf_7 : decode cX5_lengthOf 7 = .ok (.ireturn, 1) := by decide +kernel
set_option maxRecDepth 20000 in
theorem ggX5_latestOf_X5_valueAt : GoodIn wsX5_latestOf wsX5_valueAt := goodIn_r _ [5, 6, 7, 8, 4, 9, 10, 11] (by decide +kernel) (by decide +kernel)
set_option maxRecDepth 20000 in
theorem gX5_latestOf_X5_valueAt : GoodIn wsX5_latestOf (wsV RX5 18 RX5 yX5_valueAt wsX5_valueAt) := goodIn_app (goodIn_of _ (by decide +kernel)) ggX5_latestOf_X5_valueAt
theorem dX5_latestOf_0 : decode cX5_latestOf 0 = .ok (.aload_n 0, 1) := by decide +kernel
theorem dX5_latestOf_1 : decode cX5_latestOf 1 = .ok (.iconst 0, 1) := by decide +kernel
theorem dX5_latestOf_2 : decode cX5_latestOf 2 = .ok (.iload_n 1, 1) := by decide +kernel
theorem dX5_latestOf_3 : decode cX5_latestOf 3 = .ok (.iconst 3, 1) := by decide +kernel
theorem dX5_latestOf_4 : decode cX5_latestOf 4 = .ok (.invokevirtual 18, 3) := by decide +kernel
theorem dX5_latestOf_7 : decode cX5_latestOf 7 = .ok (.ireturn, 1) := by decide +kernel
set_option maxRecDepth 20000 in
theorem ggX5_leastOf_X5_valueAt : GoodIn wsX5_leastOf wsX5_valueAt := goodIn_r _ [5, 6, 7, 8, 4, 9, 10, 11] (by decide +kernel) (by decide +kernel)
set_option maxRecDepth 20000 in
theorem gX5_leastOf_X5_valueAt : GoodIn wsX5_leastOf (wsV RX5 18 RX5 yX5_valueAt wsX5_valueAt) := goodIn_app (goodIn_of _ (by decide +kernel)) ggX5_leastOf_X5_valueAt
theorem dX5_leastOf_0 : decode cX5_leastOf 0 = .ok (.aload_n 0, 1) := by decide +kernel
theorem dX5_leastOf_1 : decode cX5_leastOf 1 = .ok (.iconst 0, 1) := by decide +kernel
theorem dX5_leastOf_2 : decode cX5_leastOf 2 = .ok (.iload_n 1, 1) := by decide +kernel
theorem dX5_leastOf_3 : decode cX5_leastOf 3 = .ok (.iconst 4, 1) := by decide +kernel
theorem dX5_leastOf_4 : decode cX5_leastOf 4 = .ok (.invokevirtual 18, 3) := by decide +kernel
theorem dX5_leastOf_7 : decode cX5_leastOf 7 = .ok (.ireturn, 1) := by decide +kernel
set_option maxRecDepth 20000 in
theorem ggX5_countedContracts_X5_sizeOf : GoodIn wsX5_countedContracts wsX5_sizeOf := goodIn_r _ [5, 6, 15, 16] (by decide +kernel) (by decide +kernel)
set_option maxRecDepth 20000 in
theorem gX5_countedContracts_X5_sizeOf : GoodIn wsX5_countedContracts (wsV RX5 22 RX5 yX5_sizeOf wsX5_sizeOf) := goodIn_app (goodIn_of _ (by decide +kernel)) ggX5_countedContracts_X5_sizeOf
set_option maxRecDepth 20000 in
theorem ggX5_countedContracts_X5_valueAt : GoodIn wsX5_countedContracts wsX5_valueAt := goodIn_r _ [10, 11, 12, 13, 4, 14, 15, 16] (by decide +kernel) (by decide +kernel)
set_option maxRecDepth 20000 in
theorem gX5_countedContracts_X5_valueAt : GoodIn wsX5_countedContracts (wsV RX5 18 RX5 yX5_valueAt wsX5_valueAt) := goodIn_app (goodIn_of _ (by decide +kernel)) ggX5_countedContracts_X5_valueAt
theorem dX5_countedContracts_0 : decode cX5_countedContracts 0 = .ok (.iconst 0, 1) := by decide +kernel
theorem dX5_countedContracts_1 : decode cX5_countedContracts 1 = .ok (.istore_n 1, 1) := by decide +kernel
theorem dX5_countedContracts_2 : decode cX5_countedContracts 2 = .ok (.iconst 0, 1) := by decide +kernel
theorem dX5_countedContracts_3 : decode cX5_countedContracts 3 = .ok (.istore_n 2, 1) := by decide +kernel
theorem dX5_countedContracts_4 : decode cX5_countedContracts 4 = .ok (.iload_n 2, 1) := by decide +kernel
theorem dX5_countedContracts_5 : decode cX5_countedContracts 5 = .ok (.aload_n 0, 1) := by decide +kernel
theorem dX5_countedContracts_6 : decode cX5_countedContracts 6 = .ok (.iconst 0, 1) := by decide +kernel
theorem dX5_countedContracts_7 : decode cX5_countedContracts 7 = .ok (.invokevirtual 22, 3) := by decide +kernel
theorem dX5_countedContracts_10 : decode cX5_countedContracts 10 = .ok (.if_icmp .ge 21, 3) := by decide +kernel
theorem dX5_countedContracts_13 : decode cX5_countedContracts 13 = .ok (.iload_n 1, 1) := by decide +kernel
theorem dX5_countedContracts_14 : decode cX5_countedContracts 14 = .ok (.aload_n 0, 1) := by decide +kernel
theorem dX5_countedContracts_15 : decode cX5_countedContracts 15 = .ok (.iconst 0, 1) := by decide +kernel
theorem dX5_countedContracts_16 : decode cX5_countedContracts 16 = .ok (.iload_n 2, 1) := by decide +kernel
theorem dX5_countedContracts_17 : decode cX5_countedContracts 17 = .ok (.iconst 1, 1) := by decide +kernel
theorem dX5_countedContracts_18 : decode cX5_countedContracts 18 = .ok (.invokevirtual 18, 3) := by decide +kernel
theorem dX5_countedContracts_21 : decode cX5_countedContracts 21 = .ok (.iload_n 2, 1) := by decide +kernel
theorem dX5_countedContracts_22 : decode cX5_countedContracts 22 = .ok (.ishl, 1) := by decide +kernel
theorem dX5_countedContracts_23 : decode cX5_countedContracts 23 = .ok (.ior, 1) := by decide +kernel
theorem dX5_countedContracts_24 : decode cX5_countedContracts 24 = .ok (.istore_n 1, 1) := by decide +kernel
theorem dX5_countedContracts_25 : decode cX5_countedContracts 25 = .ok (.iinc 2 1, 3) := by decide +kernel
theorem dX5_countedContracts_28 : decode cX5_countedContracts 28 = .ok (.goto (-24), 3) := by decide +kernel
theorem dX5_countedContracts_31 : decode cX5_countedContracts 31 = .ok (.iload_n 1, 1) := by decide +kernel
theorem dX5_countedContracts_32 : decode cX5_countedContracts 32 = .ok (.ireturn, 1) := by decide +kernel
set_option maxRecDepth 20000 in
theorem ggX5_birthDay_X5_valueAt : GoodIn wsX5_birthDay wsX5_valueAt := goodIn_r _ [5, 6, 7, 8, 4, 9, 10, 11] (by decide +kernel) (by decide +kernel)
set_option maxRecDepth 20000 in
theorem gX5_birthDay_X5_valueAt : GoodIn wsX5_birthDay (wsV RX5 18 RX5 yX5_valueAt wsX5_valueAt) := goodIn_app (goodIn_of _ (by decide +kernel)) ggX5_birthDay_X5_valueAt
theorem dX5_birthDay_0 : decode cX5_birthDay 0 = .ok (.aload_n 0, 1) := by decide +kernel
theorem dX5_birthDay_1 : decode cX5_birthDay 1 = .ok (.iconst 1, 1) := by decide +kernel
theorem dX5_birthDay_2 : decode cX5_birthDay 2 = .ok (.iload_n 1, 1) := by decide +kernel
theorem dX5_birthDay_3 : decode cX5_birthDay 3 = .ok (.iconst 0, 1) := by decide +kernel
theorem dX5_birthDay_4 : decode cX5_birthDay 4 = .ok (.invokevirtual 18, 3) := by decide +kernel
theorem dX5_birthDay_7 : decode cX5_birthDay 7 = .ok (.ireturn, 1) := by decide +kernel
set_option maxRecDepth 20000 in
theorem ggX5_fullAge_X5_valueAt : GoodIn wsX5_fullAge wsX5_valueAt := goodIn_r _ [5, 6, 7, 8, 4, 9, 10, 11] (by decide +kernel) (by decide +kernel)
set_option maxRecDepth 20000 in
theorem gX5_fullAge_X5_valueAt : GoodIn wsX5_fullAge (wsV RX5 18 RX5 yX5_valueAt wsX5_valueAt) := goodIn_app (goodIn_of _ (by decide +kernel)) ggX5_fullAge_X5_valueAt
theorem dX5_fullAge_0 : decode cX5_fullAge 0 = .ok (.aload_n 0, 1) := by decide +kernel
theorem dX5_fullAge_1 : decode cX5_fullAge 1 = .ok (.iconst 1, 1) := by decide +kernel
theorem dX5_fullAge_2 : decode cX5_fullAge 2 = .ok (.iload_n 1, 1) := by decide +kernel
theorem dX5_fullAge_3 : decode cX5_fullAge 3 = .ok (.iconst 1, 1) := by decide +kernel
theorem dX5_fullAge_4 : decode cX5_fullAge 4 = .ok (.invokevirtual 18, 3) := by decide +kernel
theorem dX5_fullAge_7 : decode cX5_fullAge 7 = .ok (.ireturn, 1) := by decide +kernel
set_option maxRecDepth 20000 in
theorem ggX5_tideEach_X5_valueAt : GoodIn wsX5_tideEach wsX5_valueAt := goodIn_r _ [5, 6, 7, 8, 4, 9, 10, 11] (by decide +kernel) (by decide +kernel)
set_option maxRecDepth 20000 in
theorem gX5_tideEach_X5_valueAt : GoodIn wsX5_tideEach (wsV RX5 18 RX5 yX5_valueAt wsX5_valueAt) := goodIn_app (goodIn_of _ (by decide +kernel)) ggX5_tideEach_X5_valueAt
theorem dX5_tideEach_0 : decode cX5_tideEach 0 = .ok (.aload_n 0, 1) := by decide +kernel
theorem dX5_tideEach_1 : decode cX5_tideEach 1 = .ok (.iconst 2, 1) := by decide +kernel
theorem dX5_tideEach_2 : decode cX5_tideEach 2 = .ok (.iload_n 1, 1) := by decide +kernel
theorem dX5_tideEach_3 : decode cX5_tideEach 3 = .ok (.iconst 0, 1) := by decide +kernel
theorem dX5_tideEach_4 : decode cX5_tideEach 4 = .ok (.invokevirtual 18, 3) := by decide +kernel
theorem dX5_tideEach_7 : decode cX5_tideEach 7 = .ok (.ireturn, 1) := by decide +kernel
set_option maxRecDepth 20000 in
theorem ggX5_tideFirst_X5_valueAt : GoodIn wsX5_tideFirst wsX5_valueAt := goodIn_r _ [5, 6, 7, 8, 4, 9, 10, 11] (by decide +kernel) (by decide +kernel)
set_option maxRecDepth 20000 in
theorem gX5_tideFirst_X5_valueAt : GoodIn wsX5_tideFirst (wsV RX5 18 RX5 yX5_valueAt wsX5_valueAt) := goodIn_app (goodIn_of _ (by decide +kernel)) ggX5_tideFirst_X5_valueAt
theorem dX5_tideFirst_0 : decode cX5_tideFirst 0 = .ok (.aload_n 0, 1) := by decide +kernel
theorem dX5_tideFirst_1 : decode cX5_tideFirst 1 = .ok (.iconst 2, 1) := by decide +kernel
theorem dX5_tideFirst_2 : decode cX5_tideFirst 2 = .ok (.iload_n 1, 1) := by decide +kernel
theorem dX5_tideFirst_3 : decode cX5_tideFirst 3 = .ok (.iconst 1, 1) := by decide +kernel
theorem dX5_tideFirst_4 : decode cX5_tideFirst 4 = .ok (.invokevirtual 18, 3) := by decide +kernel
theorem dX5_tideFirst_7 : decode cX5_tideFirst 7 = .ok (.ireturn, 1) := by decide +kernel
set_option maxRecDepth 20000 in
theorem ggX5_debtor_X5_valueAt : GoodIn wsX5_debtor wsX5_valueAt := goodIn_r _ [5, 6, 7, 8, 4, 9, 10, 11] (by decide +kernel) (by decide +kernel)
set_option maxRecDepth 20000 in
theorem gX5_debtor_X5_valueAt : GoodIn wsX5_debtor (wsV RX5 18 RX5 yX5_valueAt wsX5_valueAt) := goodIn_app (goodIn_of _ (by decide +kernel)) ggX5_debtor_X5_valueAt
theorem dX5_debtor_0 : decode cX5_debtor 0 = .ok (.aload_n 0, 1) := by decide +kernel
theorem dX5_debtor_1 : decode cX5_debtor 1 = .ok (.iconst 3, 1) := by decide +kernel
theorem dX5_debtor_2 : decode cX5_debtor 2 = .ok (.iload_n 1, 1) := by decide +kernel
theorem dX5_debtor_3 : decode cX5_debtor 3 = .ok (.iconst 0, 1) := by decide +kernel
theorem dX5_debtor_4 : decode cX5_debtor 4 = .ok (.invokevirtual 18, 3) := by decide +kernel
theorem dX5_debtor_7 : decode cX5_debtor 7 = .ok (.ireturn, 1) := by decide +kernel
set_option maxRecDepth 20000 in
theorem ggX5_creditor_X5_valueAt : GoodIn wsX5_creditor wsX5_valueAt := goodIn_r _ [5, 6, 7, 8, 4, 9, 10, 11] (by decide +kernel) (by decide +kernel)
set_option maxRecDepth 20000 in
theorem gX5_creditor_X5_valueAt : GoodIn wsX5_creditor (wsV RX5 18 RX5 yX5_valueAt wsX5_valueAt) := goodIn_app (goodIn_of _ (by decide +kernel)) ggX5_creditor_X5_valueAt
theorem dX5_creditor_0 : decode cX5_creditor 0 = .ok (.aload_n 0, 1) := by decide +kernel
theorem dX5_creditor_1 : decode cX5_creditor 1 = .ok (.iconst 3, 1) := by decide +kernel
theorem dX5_creditor_2 : decode cX5_creditor 2 = .ok (.iload_n 1, 1) := by decide +kernel
theorem dX5_creditor_3 : decode cX5_creditor 3 = .ok (.iconst 1, 1) := by decide +kernel
theorem dX5_creditor_4 : decode cX5_creditor 4 = .ok (.invokevirtual 18, 3) := by decide +kernel
theorem dX5_creditor_7 : decode cX5_creditor 7 = .ok (.ireturn, 1) := by decide +kernel
set_option maxRecDepth 20000 in
theorem ggX5_debtOf_X5_valueAt : GoodIn wsX5_debtOf wsX5_valueAt := goodIn_r _ [5, 6, 7, 8, 4, 9, 10, 11] (by decide +kernel) (by decide +kernel)
set_option maxRecDepth 20000 in
theorem gX5_debtOf_X5_valueAt : GoodIn wsX5_debtOf (wsV RX5 18 RX5 yX5_valueAt wsX5_valueAt) := goodIn_app (goodIn_of _ (by decide +kernel)) ggX5_debtOf_X5_valueAt
theorem dX5_debtOf_0 : decode cX5_debtOf 0 = .ok (.aload_n 0, 1) := by decide +kernel
theorem dX5_debtOf_1 : decode cX5_debtOf 1 = .ok (.iconst 3, 1) := by decide +kernel
theorem dX5_debtOf_2 : decode cX5_debtOf 2 = .ok (.iload_n 1, 1) := by decide +kernel
theorem dX5_debtOf_3 : decode cX5_debtOf 3 = .ok (.iconst 2, 1) := by decide +kernel
theorem dX5_debtOf_4 : decode cX5_debtOf 4 = .ok (.invokevirtual 18, 3) := by decide +kernel
theorem dX5_debtOf_7 : decode cX5_debtOf 7 = .ok (.ireturn, 1) := by decide +kernel
set_option maxRecDepth 20000 in
theorem ggX5_readFrom_X4_at : GoodIn wsX5_readFrom wsX4_at := goodIn_r _ [6, 7, 8, 99, 100] (by decide +kernel) (by decide +kernel)
set_option maxRecDepth 20000 in
theorem gX5_readFrom_X4_at : GoodIn wsX5_readFrom (wsV RX5 26 RX4 yX4_at wsX4_at) := goodIn_app (goodIn_of _ (by decide +kernel)) ggX5_readFrom_X4_at
set_option maxRecDepth 20000 in
theorem ggX5_readFrom_X4_length : GoodIn wsX5_readFrom wsX4_length := goodIn_r _ [12, 7, 99, 100] (by decide +kernel) (by decide +kernel)
set_option maxRecDepth 20000 in
theorem gX5_readFrom_X4_length : GoodIn wsX5_readFrom (wsV RX5 31 RX4 yX4_length wsX4_length) := goodIn_app (goodIn_of _ (by decide +kernel)) ggX5_readFrom_X4_length
set_option maxRecDepth 20000 in
theorem ggX5_readFrom_X5_kindBy : GoodIn wsX5_readFrom wsX5_kindBy := goodIn_r _ [16] (by decide +kernel) (by decide +kernel)
set_option maxRecDepth 20000 in
theorem gX5_readFrom_X5_kindBy : GoodIn wsX5_readFrom (va_wsS RX5 35 yX5_kindBy wsX5_kindBy) := goodIn_app (goodIn_of _ (by decide +kernel)) ggX5_readFrom_X5_kindBy
set_option maxRecDepth 20000 in
theorem ggX5_readFrom_X5_sizeOf : GoodIn wsX5_readFrom wsX5_sizeOf := goodIn_r _ [20, 1, 97, 98] (by decide +kernel) (by decide +kernel)
set_option maxRecDepth 20000 in
theorem gX5_readFrom_X5_sizeOf : GoodIn wsX5_readFrom (wsV RX5 22 RX5 yX5_sizeOf wsX5_sizeOf) := goodIn_app (goodIn_of _ (by decide +kernel)) ggX5_readFrom_X5_sizeOf
set_option maxRecDepth 20000 in
theorem ggX5_readFrom_X5_mostOf : GoodIn wsX5_readFrom wsX5_mostOf := goodIn_r _ [23] (by decide +kernel) (by decide +kernel)
set_option maxRecDepth 20000 in
theorem gX5_readFrom_X5_mostOf : GoodIn wsX5_readFrom (va_wsS RX5 38 yX5_mostOf wsX5_mostOf) := goodIn_app (goodIn_of _ (by decide +kernel)) ggX5_readFrom_X5_mostOf
set_option maxRecDepth 20000 in
theorem ggX5_readFrom_X5_readPart : GoodIn wsX5_readFrom wsX5_readPart := goodIn_r _ [27, 1, 28, 29, 15, 30, 31, 32, 33, 34, 35, 36, 37, 38, 39, 40, 41, 42, 43, 44, 45, 46, 47, 48, 49, 50, 51, 52, 53, 54, 55, 56, 57, 58, 59, 60, 61, 62, 63, 64, 65, 66, 67, 68, 69, 70, 71, 72, 73, 74, 75, 76, 77, 78, 79, 2, 3, 4, 5, 6, 7, 8, 80, 81, 82, 83, 84, 85, 86, 87, 88, 17, 18, 19, 20, 89, 90, 91, 92, 93, 94, 95, 96, 97, 98, 99, 100] (by decide +kernel) (by decide +kernel)
set_option maxRecDepth 20000 in
theorem gX5_readFrom_X5_readPart : GoodIn wsX5_readFrom (wsV RX5 41 RX5 yX5_readPart wsX5_readPart) := goodIn_app (goodIn_of _ (by decide +kernel)) ggX5_readFrom_X5_readPart
set_option maxRecDepth 20000 in
theorem ggX5_readFrom_X5_signsOf : GoodIn wsX5_readFrom wsX5_signsOf := goodIn_r _ [30] (by decide +kernel) (by decide +kernel)
set_option maxRecDepth 20000 in
theorem gX5_readFrom_X5_signsOf : GoodIn wsX5_readFrom (va_wsS RX5 45 yX5_signsOf wsX5_signsOf) := goodIn_app (goodIn_of _ (by decide +kernel)) ggX5_readFrom_X5_signsOf
set_option maxRecDepth 20000 in
theorem ggX5_readFrom_J0_length_8abf5 : GoodIn wsX5_readFrom wsJ0_length_8abf5 := goodIn_r _ [35, 36, 37, 38, 39, 34, 40, 41, 42] (by decide +kernel) (by decide +kernel)
set_option maxRecDepth 20000 in
theorem gX5_readFrom_J0_length_8abf5 : GoodIn wsX5_readFrom (wsV RX5 49 RJ0 yJ0_length_8abf5 wsJ0_length_8abf5) := goodIn_app (goodIn_of _ (by decide +kernel)) ggX5_readFrom_J0_length_8abf5
theorem dX5_readFrom_0 : decode cX5_readFrom 0 = .ok (.iconst 0, 1) := by decide +kernel
theorem dX5_readFrom_1 : decode cX5_readFrom 1 = .ok (.istore_n 2, 1) := by decide +kernel
theorem dX5_readFrom_2 : decode cX5_readFrom 2 = .ok (.iload_n 2, 1) := by decide +kernel
theorem dX5_readFrom_3 : decode cX5_readFrom 3 = .ok (.iconst 4, 1) := by decide +kernel
theorem dX5_readFrom_4 : decode cX5_readFrom 4 = .ok (.if_icmp .ge 16, 3) := by decide +kernel
theorem dX5_readFrom_7 : decode cX5_readFrom 7 = .ok (.aload_n 0, 1) := by decide +kernel
theorem dX5_readFrom_8 : decode cX5_readFrom 8 = .ok (.getfield 11, 3) := by decide +kernel
theorem dX5_readFrom_11 : decode cX5_readFrom 11 = .ok (.iload_n 2, 1) := by decide +kernel
theorem dX5_readFrom_12 : decode cX5_readFrom 12 = .ok (.iconst 0, 1) := by decide +kernel
theorem dX5_readFrom_13 : decode cX5_readFrom 13 = .ok (.iastore, 1) := by decide +kernel
theorem dX5_readFrom_14 : decode cX5_readFrom 14 = .ok (.iinc 2 1, 3) := by decide +kernel
theorem dX5_readFrom_17 : decode cX5_readFrom 17 = .ok (.goto (-15), 3) := by decide +kernel
theorem dX5_readFrom_20 : decode cX5_readFrom 20 = .ok (.aload_n 1, 1) := by decide +kernel
theorem dX5_readFrom_21 : decode cX5_readFrom 21 = .ok (.iconst 0, 1) := by decide +kernel
theorem dX5_readFrom_22 : decode cX5_readFrom 22 = .ok (.invokevirtual 26, 3) := by decide +kernel
theorem dX5_readFrom_25 : decode cX5_readFrom 25 = .ok (.bipush 77, 2) := by decide +kernel
theorem dX5_readFrom_27 : decode cX5_readFrom 27 = .ok (.if_icmp .eq 5, 3) := by decide +kernel
theorem dX5_readFrom_30 : decode cX5_readFrom 30 = .ok (.iconst 0, 1) := by decide +kernel
theorem dX5_readFrom_31 : decode cX5_readFrom 31 = .ok (.ireturn, 1) := by decide +kernel
theorem dX5_readFrom_32 : decode cX5_readFrom 32 = .ok (.iconst 1, 1) := by decide +kernel
theorem dX5_readFrom_33 : decode cX5_readFrom 33 = .ok (.istore_n 2, 1) := by decide +kernel
theorem dX5_readFrom_34 : decode cX5_readFrom 34 = .ok (.iload_n 2, 1) := by decide +kernel
theorem dX5_readFrom_35 : decode cX5_readFrom 35 = .ok (.aload_n 1, 1) := by decide +kernel
theorem dX5_readFrom_36 : decode cX5_readFrom 36 = .ok (.invokevirtual 31, 3) := by decide +kernel
theorem dX5_readFrom_39 : decode cX5_readFrom 39 = .ok (.if_icmp .ge 67, 3) := by decide +kernel
theorem dX5_readFrom_42 : decode cX5_readFrom 42 = .ok (.aload_n 1, 1) := by decide +kernel
theorem dX5_readFrom_43 : decode cX5_readFrom 43 = .ok (.iload_n 2, 1) := by decide +kernel
theorem dX5_readFrom_44 : decode cX5_readFrom 44 = .ok (.invokevirtual 26, 3) := by decide +kernel
theorem dX5_readFrom_47 : decode cX5_readFrom 47 = .ok (.invokestatic 35, 3) := by decide +kernel
theorem dX5_readFrom_50 : decode cX5_readFrom 50 = .ok (.istore_n 3, 1) := by decide +kernel
theorem dX5_readFrom_51 : decode cX5_readFrom 51 = .ok (.iload_n 3, 1) := by decide +kernel
theorem dX5_readFrom_52 : decode cX5_readFrom 52 = .ok (.iconst (-1), 1) := by decide +kernel
theorem dX5_readFrom_53 : decode cX5_readFrom 53 = .ok (.if_icmp .eq 15, 3) := by decide +kernel
theorem dX5_readFrom_56 : decode cX5_readFrom 56 = .ok (.aload_n 0, 1) := by decide +kernel
theorem dX5_readFrom_57 : decode cX5_readFrom 57 = .ok (.iload_n 3, 1) := by decide +kernel
theorem dX5_readFrom_58 : decode cX5_readFrom 58 = .ok (.invokevirtual 22, 3) := by decide +kernel
theorem dX5_readFrom_61 : decode cX5_readFrom 61 = .ok (.iload_n 3, 1) := by decide +kernel
theorem dX5_readFrom_62 : decode cX5_readFrom 62 = .ok (.invokestatic 38, 3) := by decide +kernel
theorem dX5_readFrom_65 : decode cX5_readFrom 65 = .ok (.if_icmp .lt 5, 3) := by decide +kernel
theorem dX5_readFrom_68 : decode cX5_readFrom 68 = .ok (.iload_n 2, 1) := by decide +kernel
theorem dX5_readFrom_69 : decode cX5_readFrom 69 = .ok (.ireturn, 1) := by decide +kernel
theorem dX5_readFrom_70 : decode cX5_readFrom 70 = .ok (.aload_n 0, 1) := by decide +kernel
theorem dX5_readFrom_71 : decode cX5_readFrom 71 = .ok (.aload_n 1, 1) := by decide +kernel
theorem dX5_readFrom_72 : decode cX5_readFrom 72 = .ok (.iload_n 2, 1) := by decide +kernel
theorem dX5_readFrom_73 : decode cX5_readFrom 73 = .ok (.iconst 1, 1) := by decide +kernel
theorem dX5_readFrom_74 : decode cX5_readFrom 74 = .ok (.iadd, 1) := by decide +kernel
theorem dX5_readFrom_75 : decode cX5_readFrom 75 = .ok (.iload_n 3, 1) := by decide +kernel
theorem dX5_readFrom_76 : decode cX5_readFrom 76 = .ok (.invokevirtual 41, 3) := by decide +kernel
theorem dX5_readFrom_79 : decode cX5_readFrom 79 = .ok (.istore 4, 2) := by decide +kernel
theorem dX5_readFrom_81 : decode cX5_readFrom 81 = .ok (.iload 4, 2) := by decide +kernel
theorem dX5_readFrom_83 : decode cX5_readFrom 83 = .ok (.bipush (-9), 2) := by decide +kernel
theorem dX5_readFrom_85 : decode cX5_readFrom 85 = .ok (.if_icmp .eq 6, 3) := by decide +kernel
theorem dX5_readFrom_88 : decode cX5_readFrom 88 = .ok (.iload 4, 2) := by decide +kernel
theorem dX5_readFrom_90 : decode cX5_readFrom 90 = .ok (.ireturn, 1) := by decide +kernel
theorem dX5_readFrom_91 : decode cX5_readFrom 91 = .ok (.iload_n 2, 1) := by decide +kernel
theorem dX5_readFrom_92 : decode cX5_readFrom 92 = .ok (.iconst 1, 1) := by decide +kernel
theorem dX5_readFrom_93 : decode cX5_readFrom 93 = .ok (.iload_n 3, 1) := by decide +kernel
theorem dX5_readFrom_94 : decode cX5_readFrom 94 = .ok (.invokestatic 45, 3) := by decide +kernel
theorem dX5_readFrom_97 : decode cX5_readFrom 97 = .ok (.invokevirtual 49, 3) := by decide +kernel
theorem dX5_readFrom_100 : decode cX5_readFrom 100 = .ok (.iadd, 1) := by decide +kernel
theorem dX5_readFrom_101 : decode cX5_readFrom 101 = .ok (.iadd, 1) := by decide +kernel
theorem dX5_readFrom_102 : decode cX5_readFrom 102 = .ok (.istore_n 2, 1) := by decide +kernel
theorem dX5_readFrom_103 : decode cX5_readFrom 103 = .ok (.goto (-69), 3) := by decide +kernel
theorem dX5_readFrom_106 : decode cX5_readFrom 106 = .ok (.bipush (-9), 2) := by decide +kernel
theorem dX5_readFrom_108 : decode cX5_readFrom 108 = .ok (.ireturn, 1) := by decide +kernel
set_option maxRecDepth 20000 in
theorem ggX5_readPart_X5_signsOf : GoodIn wsX5_readPart wsX5_signsOf := goodIn_r _ [5] (by decide +kernel) (by decide +kernel)
set_option maxRecDepth 20000 in
theorem gX5_readPart_X5_signsOf : GoodIn wsX5_readPart (va_wsS RX5 45 yX5_signsOf wsX5_signsOf) := goodIn_app (goodIn_of _ (by decide +kernel)) ggX5_readPart_X5_signsOf
set_option maxRecDepth 20000 in
theorem ggX5_readPart_J0_length_8abf5 : GoodIn wsX5_readPart wsJ0_length_8abf5 := goodIn_r _ [10, 11, 12, 13, 14, 9, 15, 16, 17] (by decide +kernel) (by decide +kernel)
set_option maxRecDepth 20000 in
theorem gX5_readPart_J0_length_8abf5 : GoodIn wsX5_readPart (wsV RX5 49 RJ0 yJ0_length_8abf5 wsJ0_length_8abf5) := goodIn_app (goodIn_of _ (by decide +kernel)) ggX5_readPart_J0_length_8abf5
set_option maxRecDepth 20000 in
theorem ggX5_readPart_J0_charAt_5068e : GoodIn wsX5_readPart wsJ0_charAt_5068e := goodIn_r _ [21, 11, 22, 23, 24, 9, 25, 16, 17, 26, 27, 28, 29, 30, 31, 32, 33, 34, 35, 36, 37, 38, 39, 40, 41, 42, 43, 44, 45, 46, 47, 48, 49, 50, 51, 52, 53, 54] (by decide +kernel) (by decide +kernel)
set_option maxRecDepth 20000 in
theorem gX5_readPart_J0_charAt_5068e : GoodIn wsX5_readPart (wsV RX5 52 RJ0 yJ0_charAt_5068e wsJ0_charAt_5068e) := goodIn_app (goodIn_of _ (by decide +kernel)) ggX5_readPart_J0_charAt_5068e
set_option maxRecDepth 20000 in
theorem ggX5_readPart_X4_at : GoodIn wsX5_readPart wsX4_at := goodIn_r _ [59, 60, 61, 85, 86] (by decide +kernel) (by decide +kernel)
set_option maxRecDepth 20000 in
theorem gX5_readPart_X4_at : GoodIn wsX5_readPart (wsV RX5 26 RX4 yX4_at wsX4_at) := goodIn_app (goodIn_of _ (by decide +kernel)) ggX5_readPart_X4_at
set_option maxRecDepth 20000 in
theorem ggX5_readPart_X5_valueBy : GoodIn wsX5_readPart wsX5_valueBy := goodIn_r _ [64, 65, 66, 4, 67, 68, 69, 70] (by decide +kernel) (by decide +kernel)
set_option maxRecDepth 20000 in
theorem gX5_readPart_X5_valueBy : GoodIn wsX5_readPart (va_wsS RX5 56 yX5_valueBy wsX5_valueBy) := goodIn_app (goodIn_of _ (by decide +kernel)) ggX5_readPart_X5_valueBy
set_option maxRecDepth 20000 in
theorem ggX5_readPart_X5_sizeOf : GoodIn wsX5_readPart wsX5_sizeOf := goodIn_r _ [74, 1, 83, 84] (by decide +kernel) (by decide +kernel)
set_option maxRecDepth 20000 in
theorem gX5_readPart_X5_sizeOf : GoodIn wsX5_readPart (wsV RX5 22 RX5 yX5_sizeOf wsX5_sizeOf) := goodIn_app (goodIn_of _ (by decide +kernel)) ggX5_readPart_X5_sizeOf
set_option maxRecDepth 20000 in
theorem ggX5_readPart_X5_setValue : GoodIn wsX5_readPart wsX5_setValue := goodIn_r _ [78, 79, 80, 81, 4, 82, 83, 84] (by decide +kernel) (by decide +kernel)
set_option maxRecDepth 20000 in
theorem gX5_readPart_X5_setValue : GoodIn wsX5_readPart (wsV RX5 59 RX5 yX5_setValue wsX5_setValue) := goodIn_app (goodIn_of _ (by decide +kernel)) ggX5_readPart_X5_setValue
theorem dX5_readPart_0 : decode cX5_readPart 0 = .ok (.iload_n 3, 1) := by decide +kernel
theorem dX5_readPart_1 : decode cX5_readPart 1 = .ok (.invokestatic 45, 3) := by decide +kernel
theorem dX5_readPart_4 : decode cX5_readPart 4 = .ok (.astore 4, 2) := by decide +kernel
theorem dX5_readPart_6 : decode cX5_readPart 6 = .ok (.iconst (-1), 1) := by decide +kernel
theorem dX5_readPart_7 : decode cX5_readPart 7 = .ok (.istore 5, 2) := by decide +kernel
theorem dX5_readPart_9 : decode cX5_readPart 9 = .ok (.iconst 0, 1) := by decide +kernel
theorem dX5_readPart_10 : decode cX5_readPart 10 = .ok (.istore 6, 2) := by decide +kernel
theorem dX5_readPart_12 : decode cX5_readPart 12 = .ok (.iload 6, 2) := by decide +kernel
theorem dX5_readPart_14 : decode cX5_readPart 14 = .ok (.aload 4, 2) := by decide +kernel
theorem dX5_readPart_16 : decode cX5_readPart 16 = .ok (.invokevirtual 49, 3) := by decide +kernel
theorem dX5_readPart_19 : decode cX5_readPart 19 = .ok (.if_icmp .ge 60, 3) := by decide +kernel
theorem dX5_readPart_22 : decode cX5_readPart 22 = .ok (.aload 4, 2) := by decide +kernel
theorem dX5_readPart_24 : decode cX5_readPart 24 = .ok (.iload 6, 2) := by decide +kernel
theorem dX5_readPart_26 : decode cX5_readPart 26 = .ok (.invokevirtual 52, 3) := by decide +kernel
theorem dX5_readPart_29 : decode cX5_readPart 29 = .ok (.aload_n 1, 1) := by decide +kernel
theorem dX5_readPart_30 : decode cX5_readPart 30 = .ok (.iload_n 2, 1) := by decide +kernel
theorem dX5_readPart_31 : decode cX5_readPart 31 = .ok (.iload 6, 2) := by decide +kernel
theorem dX5_readPart_33 : decode cX5_readPart 33 = .ok (.iadd, 1) := by decide +kernel
theorem dX5_readPart_34 : decode cX5_readPart 34 = .ok (.invokevirtual 26, 3) := by decide +kernel
theorem dX5_readPart_37 : decode cX5_readPart 37 = .ok (.iload 5, 2) := by decide +kernel
theorem dX5_readPart_39 : decode cX5_readPart 39 = .ok (.invokestatic 56, 3) := by decide +kernel
theorem dX5_readPart_42 : decode cX5_readPart 42 = .ok (.istore 7, 2) := by decide +kernel
theorem dX5_readPart_44 : decode cX5_readPart 44 = .ok (.iload 7, 2) := by decide +kernel
theorem dX5_readPart_46 : decode cX5_readPart 46 = .ok (.iconst (-1), 1) := by decide +kernel
theorem dX5_readPart_47 : decode cX5_readPart 47 = .ok (.if_icmp .ne 8, 3) := by decide +kernel
theorem dX5_readPart_50 : decode cX5_readPart 50 = .ok (.iload_n 2, 1) := by decide +kernel
theorem dX5_readPart_51 : decode cX5_readPart 51 = .ok (.iload 6, 2) := by decide +kernel
theorem dX5_readPart_53 : decode cX5_readPart 53 = .ok (.iadd, 1) := by decide +kernel
theorem dX5_readPart_54 : decode cX5_readPart 54 = .ok (.ireturn, 1) := by decide +kernel
theorem dX5_readPart_55 : decode cX5_readPart 55 = .ok (.aload_n 0, 1) := by decide +kernel
theorem dX5_readPart_56 : decode cX5_readPart 56 = .ok (.iload_n 3, 1) := by decide +kernel
theorem dX5_readPart_57 : decode cX5_readPart 57 = .ok (.aload_n 0, 1) := by decide +kernel
theorem dX5_readPart_58 : decode cX5_readPart 58 = .ok (.iload_n 3, 1) := by decide +kernel
theorem dX5_readPart_59 : decode cX5_readPart 59 = .ok (.invokevirtual 22, 3) := by decide +kernel
theorem dX5_readPart_62 : decode cX5_readPart 62 = .ok (.iload 6, 2) := by decide +kernel
theorem dX5_readPart_64 : decode cX5_readPart 64 = .ok (.iload 7, 2) := by decide +kernel
theorem dX5_readPart_66 : decode cX5_readPart 66 = .ok (.invokevirtual 59, 3) := by decide +kernel
theorem dX5_readPart_69 : decode cX5_readPart 69 = .ok (.iload 7, 2) := by decide +kernel
theorem dX5_readPart_71 : decode cX5_readPart 71 = .ok (.istore 5, 2) := by decide +kernel
theorem dX5_readPart_73 : decode cX5_readPart 73 = .ok (.iinc 6 1, 3) := by decide +kernel
theorem dX5_readPart_76 : decode cX5_readPart 76 = .ok (.goto (-64), 3) := by decide +kernel
theorem dX5_readPart_79 : decode cX5_readPart 79 = .ok (.aload_n 0, 1) := by decide +kernel
theorem dX5_readPart_80 : decode cX5_readPart 80 = .ok (.getfield 11, 3) := by decide +kernel
theorem dX5_readPart_83 : decode cX5_readPart 83 = .ok (.iload_n 3, 1) := by decide +kernel
theorem dX5_readPart_84 : decode cX5_readPart 84 = .ok (.dup2, 1) := by decide +kernel
theorem dX5_readPart_85 : decode cX5_readPart 85 = .ok (.iaload, 1) := by decide +kernel
theorem dX5_readPart_86 : decode cX5_readPart 86 = .ok (.iconst 1, 1) := by decide +kernel
theorem dX5_readPart_87 : decode cX5_readPart 87 = .ok (.iadd, 1) := by decide +kernel
theorem dX5_readPart_88 : decode cX5_readPart 88 = .ok (.iastore, 1) := by decide +kernel
theorem dX5_readPart_89 : decode cX5_readPart 89 = .ok (.bipush (-9), 2) := by decide +kernel
theorem dX5_readPart_91 : decode cX5_readPart 91 = .ok (.ireturn, 1) := by decide +kernel
set_option maxRecDepth 20000 in
theorem ggX5_valueAt_X5_cellOf : GoodIn wsX5_valueAt wsX5_cellOf := goodIn_r _ [5] (by decide +kernel) (by decide +kernel)
set_option maxRecDepth 20000 in
theorem gX5_valueAt_X5_cellOf : GoodIn wsX5_valueAt (va_wsS RX5 63 yX5_cellOf wsX5_cellOf) := goodIn_app (goodIn_of _ (by decide +kernel)) ggX5_valueAt_X5_cellOf
theorem dX5_valueAt_0 : decode cX5_valueAt 0 = .ok (.iload_n 1, 1) := by decide +kernel
theorem dX5_valueAt_1 : decode cX5_valueAt 1 = .ok (.iload_n 2, 1) := by decide +kernel
theorem dX5_valueAt_2 : decode cX5_valueAt 2 = .ok (.iload_n 3, 1) := by decide +kernel
theorem dX5_valueAt_3 : decode cX5_valueAt 3 = .ok (.invokestatic 63, 3) := by decide +kernel
theorem dX5_valueAt_6 : decode cX5_valueAt 6 = .ok (.istore 4, 2) := by decide +kernel
theorem dX5_valueAt_8 : decode cX5_valueAt 8 = .ok (.iload 4, 2) := by decide +kernel
theorem dX5_valueAt_10 : decode cX5_valueAt 10 = .ok (.ifCond .lt 20, 3) := by decide +kernel
theorem dX5_valueAt_13 : decode cX5_valueAt 13 = .ok (.iload 4, 2) := by decide +kernel
theorem dX5_valueAt_15 : decode cX5_valueAt 15 = .ok (.bipush 120, 2) := by decide +kernel
theorem dX5_valueAt_17 : decode cX5_valueAt 17 = .ok (.if_icmp .ge 13, 3) := by decide +kernel
theorem dX5_valueAt_20 : decode cX5_valueAt 20 = .ok (.aload_n 0, 1) := by decide +kernel
theorem dX5_valueAt_21 : decode cX5_valueAt 21 = .ok (.getfield 15, 3) := by decide +kernel
theorem dX5_valueAt_24 : decode cX5_valueAt 24 = .ok (.iload 4, 2) := by decide +kernel
theorem dX5_valueAt_26 : decode cX5_valueAt 26 = .ok (.iaload, 1) := by decide +kernel
theorem dX5_valueAt_27 : decode cX5_valueAt 27 = .ok (.goto 4, 3) := by decide +kernel
theorem dX5_valueAt_30 : decode cX5_valueAt 30 = .ok (.iconst 0, 1) := by decide +kernel
theorem dX5_valueAt_31 : decode cX5_valueAt 31 = .ok (.ireturn, 1) := by decide +kernel
set_option maxRecDepth 20000 in
theorem ggX5_setValue_X5_cellOf : GoodIn wsX5_setValue wsX5_cellOf := goodIn_r _ [5] (by decide +kernel) (by decide +kernel)
set_option maxRecDepth 20000 in
theorem gX5_setValue_X5_cellOf : GoodIn wsX5_setValue (va_wsS RX5 63 yX5_cellOf wsX5_cellOf) := goodIn_app (goodIn_of _ (by decide +kernel)) ggX5_setValue_X5_cellOf
theorem dX5_setValue_0 : decode cX5_setValue 0 = .ok (.iload_n 1, 1) := by decide +kernel
theorem dX5_setValue_1 : decode cX5_setValue 1 = .ok (.iload_n 2, 1) := by decide +kernel
theorem dX5_setValue_2 : decode cX5_setValue 2 = .ok (.iload_n 3, 1) := by decide +kernel
theorem dX5_setValue_3 : decode cX5_setValue 3 = .ok (.invokestatic 63, 3) := by decide +kernel
theorem dX5_setValue_6 : decode cX5_setValue 6 = .ok (.istore 5, 2) := by decide +kernel
theorem dX5_setValue_8 : decode cX5_setValue 8 = .ok (.iload 5, 2) := by decide +kernel
theorem dX5_setValue_10 : decode cX5_setValue 10 = .ok (.ifCond .lt 19, 3) := by decide +kernel
theorem dX5_setValue_13 : decode cX5_setValue 13 = .ok (.iload 5, 2) := by decide +kernel
theorem dX5_setValue_15 : decode cX5_setValue 15 = .ok (.bipush 120, 2) := by decide +kernel
theorem dX5_setValue_17 : decode cX5_setValue 17 = .ok (.if_icmp .ge 12, 3) := by decide +kernel
theorem dX5_setValue_20 : decode cX5_setValue 20 = .ok (.aload_n 0, 1) := by decide +kernel
theorem dX5_setValue_21 : decode cX5_setValue 21 = .ok (.getfield 15, 3) := by decide +kernel
theorem dX5_setValue_24 : decode cX5_setValue 24 = .ok (.iload 5, 2) := by decide +kernel
theorem dX5_setValue_26 : decode cX5_setValue 26 = .ok (.iload 4, 2) := by decide +kernel
theorem dX5_setValue_28 : decode cX5_setValue 28 = .ok (.iastore, 1) := by decide +kernel
theorem dX5_setValue_29 : decode cX5_setValue 29 = .ok (.return_, 1) := by decide +kernel
theorem dX5_cellOf_0 : decode cX5_cellOf 0 = .ok (.iload_n 0, 1) := by decide +kernel
theorem dX5_cellOf_1 : decode cX5_cellOf 1 = .ok (.bipush 6, 2) := by decide +kernel
theorem dX5_cellOf_3 : decode cX5_cellOf 3 = .ok (.imul, 1) := by decide +kernel
theorem dX5_cellOf_4 : decode cX5_cellOf 4 = .ok (.iload_n 1, 1) := by decide +kernel
theorem dX5_cellOf_5 : decode cX5_cellOf 5 = .ok (.iadd, 1) := by decide +kernel
theorem dX5_cellOf_6 : decode cX5_cellOf 6 = .ok (.iconst 5, 1) := by decide +kernel
theorem dX5_cellOf_7 : decode cX5_cellOf 7 = .ok (.imul, 1) := by decide +kernel
theorem dX5_cellOf_8 : decode cX5_cellOf 8 = .ok (.iload_n 2, 1) := by decide +kernel
theorem dX5_cellOf_9 : decode cX5_cellOf 9 = .ok (.iadd, 1) := by decide +kernel
theorem dX5_cellOf_10 : decode cX5_cellOf 10 = .ok (.ireturn, 1) := by decide +kernel
theorem dX5_kindBy_0 : decode cX5_kindBy 0 = .ok (.iload_n 0, 1) := by decide +kernel
theorem dX5_kindBy_1 : decode cX5_kindBy 1 = .ok (.lookupswitch 51 #[(66, 45), (67, 43), (79, 49), (84, 47)], 43) := by decide +kernel
theorem dX5_kindBy_44 : decode cX5_kindBy 44 = .ok (.iconst 0, 1) := by decide +kernel
theorem dX5_kindBy_45 : decode cX5_kindBy 45 = .ok (.ireturn, 1) := by decide +kernel
theorem dX5_kindBy_46 : decode cX5_kindBy 46 = .ok (.iconst 1, 1) := by decide +kernel
theorem dX5_kindBy_47 : decode cX5_kindBy 47 = .ok (.ireturn, 1) := by decide +kernel
theorem dX5_kindBy_48 : decode cX5_kindBy 48 = .ok (.iconst 2, 1) := by decide +kernel
theorem dX5_kindBy_49 : decode cX5_kindBy 49 = .ok (.ireturn, 1) := by decide +kernel
theorem dX5_kindBy_50 : decode cX5_kindBy 50 = .ok (.iconst 3, 1) := by decide +kernel
theorem dX5_kindBy_51 : decode cX5_kindBy 51 = .ok (.ireturn, 1) := by decide +kernel
theorem dX5_kindBy_52 : decode cX5_kindBy 52 = .ok (.iconst (-1), 1) := by decide +kernel
theorem dX5_kindBy_53 : decode cX5_kindBy 53 = .ok (.ireturn, 1) := by decide +kernel
theorem dX5_mostOf_0 : decode cX5_mostOf 0 = .ok (.iload_n 0, 1) := by decide +kernel
theorem dX5_mostOf_1 : decode cX5_mostOf 1 = .ok (.tableswitch 33 0 2 #[27, 29, 31], 27) := by decide +kernel
theorem dX5_mostOf_28 : decode cX5_mostOf 28 = .ok (.iconst 5, 1) := by decide +kernel
theorem dX5_mostOf_29 : decode cX5_mostOf 29 = .ok (.ireturn, 1) := by decide +kernel
theorem dX5_mostOf_30 : decode cX5_mostOf 30 = .ok (.iconst 3, 1) := by decide +kernel
theorem dX5_mostOf_31 : decode cX5_mostOf 31 = .ok (.ireturn, 1) := by decide +kernel
theorem dX5_mostOf_32 : decode cX5_mostOf 32 = .ok (.iconst 3, 1) := by decide +kernel
theorem dX5_mostOf_33 : decode cX5_mostOf 33 = .ok (.ireturn, 1) := by decide +kernel
theorem dX5_mostOf_34 : decode cX5_mostOf 34 = .ok (.bipush 6, 2) := by decide +kernel
theorem dX5_mostOf_36 : decode cX5_mostOf 36 = .ok (.ireturn, 1) := by decide +kernel
theorem dX5_signsOf_0 : decode cX5_signsOf 0 = .ok (.iload_n 0, 1) := by decide +kernel
theorem dX5_signsOf_1 : decode cX5_signsOf 1 = .ok (.tableswitch 36 0 2 #[27, 30, 33], 27) := by decide +kernel
theorem dX5_signsOf_28 : decode cX5_signsOf 28 = .ok (.ldc 66, 2) := by decide +kernel
theorem dX5_signsOf_30 : decode cX5_signsOf 30 = .ok (.areturn, 1) := by decide +kernel
theorem dX5_signsOf_31 : decode cX5_signsOf 31 = .ok (.ldc 68, 2) := by decide +kernel
theorem dX5_signsOf_33 : decode cX5_signsOf 33 = .ok (.areturn, 1) := by decide +kernel
theorem dX5_signsOf_34 : decode cX5_signsOf 34 = .ok (.ldc 70, 2) := by decide +kernel
theorem dX5_signsOf_36 : decode cX5_signsOf 36 = .ok (.areturn, 1) := by decide +kernel
theorem dX5_signsOf_37 : decode cX5_signsOf 37 = .ok (.ldc 72, 2) := by decide +kernel
theorem dX5_signsOf_39 : decode cX5_signsOf 39 = .ok (.areturn, 1) := by decide +kernel
set_option maxRecDepth 20000 in
theorem ggX5_valueBy_X5_dayBy : GoodIn wsX5_valueBy wsX5_dayBy := goodIn_r _ [4] (by decide +kernel) (by decide +kernel)
set_option maxRecDepth 20000 in
theorem gX5_valueBy_X5_dayBy : GoodIn wsX5_valueBy (va_wsS RX5 74 yX5_dayBy wsX5_dayBy) := goodIn_app (goodIn_of _ (by decide +kernel)) ggX5_valueBy_X5_dayBy
set_option maxRecDepth 20000 in
theorem ggX5_valueBy_X5_figureBy : GoodIn wsX5_valueBy wsX5_figureBy := goodIn_r _ [7] (by decide +kernel) (by decide +kernel)
set_option maxRecDepth 20000 in
theorem gX5_valueBy_X5_figureBy : GoodIn wsX5_valueBy (va_wsS RX5 77 yX5_figureBy wsX5_figureBy) := goodIn_app (goodIn_of _ (by decide +kernel)) ggX5_valueBy_X5_figureBy
theorem dX5_valueBy_0 : decode cX5_valueBy 0 = .ok (.iload_n 0, 1) := by decide +kernel
theorem dX5_valueBy_1 : decode cX5_valueBy 1 = .ok (.tableswitch 161 100 118 #[91, 134, 161, 161, 161, 161, 161, 96, 161, 161, 125, 143, 152, 161, 161, 161, 161, 161, 105], 91) := by decide +kernel
theorem dX5_valueBy_92 : decode cX5_valueBy 92 = .ok (.iload_n 1, 1) := by decide +kernel
theorem dX5_valueBy_93 : decode cX5_valueBy 93 = .ok (.invokestatic 74, 3) := by decide +kernel
theorem dX5_valueBy_96 : decode cX5_valueBy 96 = .ok (.ireturn, 1) := by decide +kernel
theorem dX5_valueBy_97 : decode cX5_valueBy 97 = .ok (.iload_n 1, 1) := by decide +kernel
theorem dX5_valueBy_98 : decode cX5_valueBy 98 = .ok (.bipush 48, 2) := by decide +kernel
theorem dX5_valueBy_100 : decode cX5_valueBy 100 = .ok (.bipush 49, 2) := by decide +kernel
theorem dX5_valueBy_102 : decode cX5_valueBy 102 = .ok (.invokestatic 77, 3) := by decide +kernel
theorem dX5_valueBy_105 : decode cX5_valueBy 105 = .ok (.ireturn, 1) := by decide +kernel
theorem dX5_valueBy_106 : decode cX5_valueBy 106 = .ok (.iload_n 2, 1) := by decide +kernel
theorem dX5_valueBy_107 : decode cX5_valueBy 107 = .ok (.ifCond .ne 10, 3) := by decide +kernel
theorem dX5_valueBy_110 : decode cX5_valueBy 110 = .ok (.iload_n 1, 1) := by decide +kernel
theorem dX5_valueBy_111 : decode cX5_valueBy 111 = .ok (.invokestatic 74, 3) := by decide +kernel
theorem dX5_valueBy_114 : decode cX5_valueBy 114 = .ok (.goto 11, 3) := by decide +kernel
theorem dX5_valueBy_117 : decode cX5_valueBy 117 = .ok (.iload_n 1, 1) := by decide +kernel
theorem dX5_valueBy_118 : decode cX5_valueBy 118 = .ok (.bipush 48, 2) := by decide +kernel
theorem dX5_valueBy_120 : decode cX5_valueBy 120 = .ok (.bipush 57, 2) := by decide +kernel
theorem dX5_valueBy_122 : decode cX5_valueBy 122 = .ok (.invokestatic 77, 3) := by decide +kernel
theorem dX5_valueBy_125 : decode cX5_valueBy 125 = .ok (.ireturn, 1) := by decide +kernel
theorem dX5_valueBy_126 : decode cX5_valueBy 126 = .ok (.iload_n 1, 1) := by decide +kernel
theorem dX5_valueBy_127 : decode cX5_valueBy 127 = .ok (.bipush 48, 2) := by decide +kernel
theorem dX5_valueBy_129 : decode cX5_valueBy 129 = .ok (.bipush 57, 2) := by decide +kernel
theorem dX5_valueBy_131 : decode cX5_valueBy 131 = .ok (.invokestatic 77, 3) := by decide +kernel
theorem dX5_valueBy_134 : decode cX5_valueBy 134 = .ok (.ireturn, 1) := by decide +kernel
theorem dX5_valueBy_135 : decode cX5_valueBy 135 = .ok (.iload_n 1, 1) := by decide +kernel
theorem dX5_valueBy_136 : decode cX5_valueBy 136 = .ok (.bipush 50, 2) := by decide +kernel
theorem dX5_valueBy_138 : decode cX5_valueBy 138 = .ok (.bipush 57, 2) := by decide +kernel
theorem dX5_valueBy_140 : decode cX5_valueBy 140 = .ok (.invokestatic 77, 3) := by decide +kernel
theorem dX5_valueBy_143 : decode cX5_valueBy 143 = .ok (.ireturn, 1) := by decide +kernel
theorem dX5_valueBy_144 : decode cX5_valueBy 144 = .ok (.iload_n 1, 1) := by decide +kernel
theorem dX5_valueBy_145 : decode cX5_valueBy 145 = .ok (.bipush 49, 2) := by decide +kernel
theorem dX5_valueBy_147 : decode cX5_valueBy 147 = .ok (.bipush 57, 2) := by decide +kernel
theorem dX5_valueBy_149 : decode cX5_valueBy 149 = .ok (.invokestatic 77, 3) := by decide +kernel
theorem dX5_valueBy_152 : decode cX5_valueBy 152 = .ok (.ireturn, 1) := by decide +kernel
theorem dX5_valueBy_153 : decode cX5_valueBy 153 = .ok (.iload_n 1, 1) := by decide +kernel
theorem dX5_valueBy_154 : decode cX5_valueBy 154 = .ok (.bipush 48, 2) := by decide +kernel
theorem dX5_valueBy_156 : decode cX5_valueBy 156 = .ok (.bipush 51, 2) := by decide +kernel
theorem dX5_valueBy_158 : decode cX5_valueBy 158 = .ok (.invokestatic 77, 3) := by decide +kernel
theorem dX5_valueBy_161 : decode cX5_valueBy 161 = .ok (.ireturn, 1) := by decide +kernel
theorem dX5_valueBy_162 : decode cX5_valueBy 162 = .ok (.iload_n 1, 1) := by decide +kernel
theorem dX5_valueBy_163 : decode cX5_valueBy 163 = .ok (.bipush 48, 2) := by decide +kernel
theorem dX5_valueBy_165 : decode cX5_valueBy 165 = .ok (.bipush 51, 2) := by decide +kernel
theorem dX5_valueBy_167 : decode cX5_valueBy 167 = .ok (.invokestatic 77, 3) := by decide +kernel
theorem dX5_valueBy_170 : decode cX5_valueBy 170 = .ok (.istore_n 3, 1) := by decide +kernel
theorem dX5_valueBy_171 : decode cX5_valueBy 171 = .ok (.iload_n 3, 1) := by decide +kernel
theorem dX5_valueBy_172 : decode cX5_valueBy 172 = .ok (.iload_n 2, 1) := by decide +kernel
theorem dX5_valueBy_173 : decode cX5_valueBy 173 = .ok (.if_icmp .ne 7, 3) := by decide +kernel
theorem dX5_valueBy_176 : decode cX5_valueBy 176 = .ok (.iconst (-1), 1) := by decide +kernel
theorem dX5_valueBy_177 : decode cX5_valueBy 177 = .ok (.goto 4, 3) := by decide +kernel
theorem dX5_valueBy_180 : decode cX5_valueBy 180 = .ok (.iload_n 3, 1) := by decide +kernel
theorem dX5_valueBy_181 : decode cX5_valueBy 181 = .ok (.ireturn, 1) := by decide +kernel
theorem dX5_dayBy_0 : decode cX5_dayBy 0 = .ok (.iload_n 0, 1) := by decide +kernel
theorem dX5_dayBy_1 : decode cX5_dayBy 1 = .ok (.bipush 97, 2) := by decide +kernel
theorem dX5_dayBy_3 : decode cX5_dayBy 3 = .ok (.if_icmp .lt 16, 3) := by decide +kernel
theorem dX5_dayBy_6 : decode cX5_dayBy 6 = .ok (.iload_n 0, 1) := by decide +kernel
theorem dX5_dayBy_7 : decode cX5_dayBy 7 = .ok (.bipush 108, 2) := by decide +kernel
theorem dX5_dayBy_9 : decode cX5_dayBy 9 = .ok (.if_icmp .gt 10, 3) := by decide +kernel
theorem dX5_dayBy_12 : decode cX5_dayBy 12 = .ok (.iload_n 0, 1) := by decide +kernel
theorem dX5_dayBy_13 : decode cX5_dayBy 13 = .ok (.bipush 97, 2) := by decide +kernel
theorem dX5_dayBy_15 : decode cX5_dayBy 15 = .ok (.isub, 1) := by decide +kernel
theorem dX5_dayBy_16 : decode cX5_dayBy 16 = .ok (.goto 4, 3) := by decide +kernel
theorem dX5_dayBy_19 : decode cX5_dayBy 19 = .ok (.iconst (-1), 1) := by decide +kernel
theorem dX5_dayBy_20 : decode cX5_dayBy 20 = .ok (.ireturn, 1) := by decide +kernel
theorem dX5_figureBy_0 : decode cX5_figureBy 0 = .ok (.iload_n 0, 1) := by decide +kernel
theorem dX5_figureBy_1 : decode cX5_figureBy 1 = .ok (.iload_n 1, 1) := by decide +kernel
theorem dX5_figureBy_2 : decode cX5_figureBy 2 = .ok (.if_icmp .lt 15, 3) := by decide +kernel
theorem dX5_figureBy_5 : decode cX5_figureBy 5 = .ok (.iload_n 0, 1) := by decide +kernel
theorem dX5_figureBy_6 : decode cX5_figureBy 6 = .ok (.iload_n 2, 1) := by decide +kernel
theorem dX5_figureBy_7 : decode cX5_figureBy 7 = .ok (.if_icmp .gt 10, 3) := by decide +kernel
theorem dX5_figureBy_10 : decode cX5_figureBy 10 = .ok (.iload_n 0, 1) := by decide +kernel
theorem dX5_figureBy_11 : decode cX5_figureBy 11 = .ok (.bipush 48, 2) := by decide +kernel
theorem dX5_figureBy_13 : decode cX5_figureBy 13 = .ok (.isub, 1) := by decide +kernel
theorem dX5_figureBy_14 : decode cX5_figureBy 14 = .ok (.goto 4, 3) := by decide +kernel
theorem dX5_figureBy_17 : decode cX5_figureBy 17 = .ok (.iconst (-1), 1) := by decide +kernel
theorem dX5_figureBy_18 : decode cX5_figureBy 18 = .ok (.ireturn, 1) := by decide +kernel
set_option maxRecDepth 20000 in
theorem ggX6_init_X4_init : GoodIn wsX6_init wsX4_init := goodIn_r _ [34, 35, 2, 3, 36, 37, 38, 74, 75] (by decide +kernel) (by decide +kernel)
set_option maxRecDepth 20000 in
theorem gX6_init_X4_init : GoodIn wsX6_init (wsX4_init) := ggX6_init_X4_init
set_option maxRecDepth 20000 in
theorem ggX6_init_X5_init : GoodIn wsX6_init wsX5_init := goodIn_r _ [41, 42, 2, 3, 36, 43, 44, 86, 87] (by decide +kernel) (by decide +kernel)
set_option maxRecDepth 20000 in
theorem gX6_init_X5_init : GoodIn wsX6_init (wsX5_init) := ggX6_init_X5_init
set_option maxRecDepth 20000 in
theorem ggX6_init_X3_init : GoodIn wsX6_init wsX3_init := goodIn_r _ [47, 48, 2, 3, 49, 50, 51, 88, 89, 90] (by decide +kernel) (by decide +kernel)
set_option maxRecDepth 20000 in
theorem gX6_init_X3_init : GoodIn wsX6_init (wsX3_init) := ggX6_init_X3_init
set_option maxRecDepth 20000 in
theorem ggX6_init_X0_init : GoodIn wsX6_init wsX0_init := goodIn_r _ [54, 55, 2, 3, 36, 56, 57, 58, 91, 92, 93] (by decide +kernel) (by decide +kernel)
set_option maxRecDepth 20000 in
theorem gX6_init_X0_init : GoodIn wsX6_init (wsX0_init) := ggX6_init_X0_init
set_option maxRecDepth 20000 in
theorem ggX6_init_X2_init : GoodIn wsX6_init wsX2_init := goodIn_r _ [61, 62, 2, 3, 36, 63, 64, 65, 94, 95, 96] (by decide +kernel) (by decide +kernel)
set_option maxRecDepth 20000 in
theorem gX6_init_X2_init : GoodIn wsX6_init (wsX2_init) := ggX6_init_X2_init
set_option maxRecDepth 20000 in
theorem ggX6_init_X1_init : GoodIn wsX6_init wsX1_init := goodIn_r _ [68, 69, 2, 3, 36, 70, 71, 72, 73, 97, 98, 99, 100] (by decide +kernel) (by decide +kernel)
set_option maxRecDepth 20000 in
theorem gX6_init_X1_init : GoodIn wsX6_init (wsX1_init) := ggX6_init_X1_init
