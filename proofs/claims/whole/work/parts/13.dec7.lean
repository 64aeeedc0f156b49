theorem dX7_init_0 : decode cX7_init 0 = .ok (.aload_n 0, 1) := by decide +kernel
theorem dX7_init_1 : decode cX7_init 1 = .ok (.invokespecial 1, 3) := by decide +kernel
theorem dX7_init_4 : decode cX7_init 4 = .ok (.aload_n 0, 1) := by decide +kernel
theorem dX7_init_5 : decode cX7_init 5 = .ok (.bipush 64, 2) := by decide +kernel
theorem dX7_init_7 : decode cX7_init 7 = .ok (.newarray .int, 2) := by decide +kernel
theorem dX7_init_9 : decode cX7_init 9 = .ok (.putfield 7, 3) := by decide +kernel
theorem dX7_init_12 : decode cX7_init 12 = .ok (.aload_n 0, 1) := by decide +kernel
theorem dX7_init_13 : decode cX7_init 13 = .ok (.bipush 25, 2) := by decide +kernel
theorem dX7_init_15 : decode cX7_init 15 = .ok (.newarray .int, 2) := by decide +kernel
theorem dX7_init_17 : decode cX7_init 17 = .ok (.putfield 13, 3) := by decide +kernel
theorem dX7_init_20 : decode cX7_init 20 = .ok (.aload_n 0, 1) := by decide +kernel
theorem dX7_init_21 : decode cX7_init 21 = .ok (.bipush 6, 2) := by decide +kernel
theorem dX7_init_23 : decode cX7_init 23 = .ok (.newarray .int, 2) := by decide +kernel
theorem dX7_init_25 : decode cX7_init 25 = .ok (.putfield 16, 3) := by decide +kernel
theorem dX7_init_28 : decode cX7_init 28 = .ok (.aload_n 0, 1) := by decide +kernel
theorem dX7_init_29 : decode cX7_init 29 = .ok (.bipush 6, 2) := by decide +kernel
theorem dX7_init_31 : decode cX7_init 31 = .ok (.newarray .int, 2) := by decide +kernel
theorem dX7_init_33 : decode cX7_init 33 = .ok (.putfield 19, 3) := by decide +kernel
theorem dX7_init_36 : decode cX7_init 36 = .ok (.aload_n 0, 1) := by decide +kernel
theorem dX7_init_37 : decode cX7_init 37 = .ok (.bipush 18, 2) := by decide +kernel
theorem dX7_init_39 : decode cX7_init 39 = .ok (.newarray .int, 2) := by decide +kernel
theorem dX7_init_41 : decode cX7_init 41 = .ok (.putfield 22, 3) := by decide +kernel
theorem dX7_init_44 : decode cX7_init 44 = .ok (.aload_n 0, 1) := by decide +kernel
theorem dX7_init_45 : decode cX7_init 45 = .ok (.bipush 25, 2) := by decide +kernel
theorem dX7_init_47 : decode cX7_init 47 = .ok (.newarray .int, 2) := by decide +kernel
theorem dX7_init_49 : decode cX7_init 49 = .ok (.putfield 25, 3) := by decide +kernel
theorem dX7_init_52 : decode cX7_init 52 = .ok (.aload_n 0, 1) := by decide +kernel
theorem dX7_init_53 : decode cX7_init 53 = .ok (.bipush 6, 2) := by decide +kernel
theorem dX7_init_55 : decode cX7_init 55 = .ok (.newarray .int, 2) := by decide +kernel
theorem dX7_init_57 : decode cX7_init 57 = .ok (.putfield 28, 3) := by decide +kernel
theorem dX7_init_60 : decode cX7_init 60 = .ok (.aload_n 0, 1) := by decide +kernel
theorem dX7_init_61 : decode cX7_init 61 = .ok (.bipush 6, 2) := by decide +kernel
theorem dX7_init_63 : decode cX7_init 63 = .ok (.newarray .int, 2) := by decide +kernel
theorem dX7_init_65 : decode cX7_init 65 = .ok (.putfield 31, 3) := by decide +kernel
theorem dX7_init_68 : decode cX7_init 68 = .ok (.aload_n 0, 1) := by decide +kernel
theorem dX7_init_69 : decode cX7_init 69 = .ok (.bipush 18, 2) := by decide +kernel
theorem dX7_init_71 : decode cX7_init 71 = .ok (.newarray .int, 2) := by decide +kernel
theorem dX7_init_73 : decode cX7_init 73 = .ok (.putfield 34, 3) := by decide +kernel
theorem dX7_init_76 : decode cX7_init 76 = .ok (.aload_n 0, 1) := by decide +kernel
theorem dX7_init_77 : decode cX7_init 77 = .ok (.bipush 12, 2) := by decide +kernel
theorem dX7_init_79 : decode cX7_init 79 = .ok (.newarray .int, 2) := by decide +kernel
theorem dX7_init_81 : decode cX7_init 81 = .ok (.putfield 37, 3) := by decide +kernel
theorem dX7_init_84 : decode cX7_init 84 = .ok (.aload_n 0, 1) := by decide +kernel
theorem dX7_init_85 : decode cX7_init 85 = .ok (.sipush 168, 3) := by decide +kernel
theorem dX7_init_88 : decode cX7_init 88 = .ok (.newarray .int, 2) := by decide +kernel
theorem dX7_init_90 : decode cX7_init 90 = .ok (.putfield 40, 3) := by decide +kernel
theorem dX7_init_93 : decode cX7_init 93 = .ok (.aload_n 0, 1) := by decide +kernel
theorem dX7_init_94 : decode cX7_init 94 = .ok (.bipush 24, 2) := by decide +kernel
theorem dX7_init_96 : decode cX7_init 96 = .ok (.newarray .int, 2) := by decide +kernel
theorem dX7_init_98 : decode cX7_init 98 = .ok (.putfield 43, 3) := by decide +kernel
theorem dX7_init_101 : decode cX7_init 101 = .ok (.aload_n 0, 1) := by decide +kernel
theorem dX7_init_102 : decode cX7_init 102 = .ok (.iconst 2, 1) := by decide +kernel
theorem dX7_init_103 : decode cX7_init 103 = .ok (.newarray .boolean, 2) := by decide +kernel
theorem dX7_init_105 : decode cX7_init 105 = .ok (.putfield 46, 3) := by decide +kernel
theorem dX7_init_108 : decode cX7_init 108 = .ok (.aload_n 0, 1) := by decide +kernel
theorem dX7_init_109 : decode cX7_init 109 = .ok (.bipush 6, 2) := by decide +kernel
theorem dX7_init_111 : decode cX7_init 111 = .ok (.newarray .int, 2) := by decide +kernel
theorem dX7_init_113 : decode cX7_init 113 = .ok (.putfield 50, 3) := by decide +kernel
theorem dX7_init_116 : decode cX7_init 116 = .ok (.aload_n 0, 1) := by decide +kernel
theorem dX7_init_117 : decode cX7_init 117 = .ok (.bipush 6, 2) := by decide +kernel
theorem dX7_init_119 : decode cX7_init 119 = .ok (.newarray .int, 2) := by decide +kernel
theorem dX7_init_121 : decode cX7_init 121 = .ok (.putfield 53, 3) := by decide +kernel
theorem dX7_init_124 : decode cX7_init 124 = .ok (.aload_n 0, 1) := by decide +kernel
theorem dX7_init_125 : decode cX7_init 125 = .ok (.iconst 4, 1) := by decide +kernel
theorem dX7_init_126 : decode cX7_init 126 = .ok (.newarray .int, 2) := by decide +kernel
theorem dX7_init_128 : decode cX7_init 128 = .ok (.putfield 56, 3) := by decide +kernel
theorem dX7_init_131 : decode cX7_init 131 = .ok (.aload_n 0, 1) := by decide +kernel
theorem dX7_init_132 : decode cX7_init 132 = .ok (.bipush 16, 2) := by decide +kernel
theorem dX7_init_134 : decode cX7_init 134 = .ok (.newarray .int, 2) := by decide +kernel
theorem dX7_init_136 : decode cX7_init 136 = .ok (.putfield 59, 3) := by decide +kernel
theorem dX7_init_139 : decode cX7_init 139 = .ok (.aload_n 0, 1) := by decide +kernel
theorem dX7_init_140 : decode cX7_init 140 = .ok (.bipush 6, 2) := by decide +kernel
theorem dX7_init_142 : decode cX7_init 142 = .ok (.newarray .int, 2) := by decide +kernel
theorem dX7_init_144 : decode cX7_init 144 = .ok (.putfield 62, 3) := by decide +kernel
theorem dX7_init_147 : decode cX7_init 147 = .ok (.aload_n 0, 1) := by decide +kernel
theorem dX7_init_148 : decode cX7_init 148 = .ok (.bipush 64, 2) := by decide +kernel
theorem dX7_init_150 : decode cX7_init 150 = .ok (.newarray .int, 2) := by decide +kernel
theorem dX7_init_152 : decode cX7_init 152 = .ok (.putfield 65, 3) := by decide +kernel
theorem dX7_init_155 : decode cX7_init 155 = .ok (.aload_n 0, 1) := by decide +kernel
theorem dX7_init_156 : decode cX7_init 156 = .ok (.bipush 64, 2) := by decide +kernel
theorem dX7_init_158 : decode cX7_init 158 = .ok (.newarray .int, 2) := by decide +kernel
theorem dX7_init_160 : decode cX7_init 160 = .ok (.putfield 68, 3) := by decide +kernel
theorem dX7_init_163 : decode cX7_init 163 = .ok (.aload_n 0, 1) := by decide +kernel
theorem dX7_init_164 : decode cX7_init 164 = .ok (.getfield 37, 3) := by decide +kernel
theorem dX7_init_167 : decode cX7_init 167 = .ok (.iconst 0, 1) := by decide +kernel
theorem dX7_init_168 : decode cX7_init 168 = .ok (.bipush 13, 2) := by decide +kernel
theorem dX7_init_170 : decode cX7_init 170 = .ok (.iastore, 1) := by decide +kernel
theorem dX7_init_171 : decode cX7_init 171 = .ok (.return_, 1) := by decide +kernel
theorem dX7_in_0 : decode cX7_in 0 = .ok (.lload_n 0, 1) := by decide +kernel
theorem dX7_in_1 : decode cX7_in 1 = .ok (.lload_n 2, 1) := by decide +kernel
theorem dX7_in_2 : decode cX7_in 2 = .ok (.lcmp, 1) := by decide +kernel
theorem dX7_in_3 : decode cX7_in 3 = .ok (.ifCond .lt 14, 3) := by decide +kernel
theorem dX7_in_6 : decode cX7_in 6 = .ok (.lload_n 0, 1) := by decide +kernel
theorem dX7_in_7 : decode cX7_in 7 = .ok (.lload 4, 2) := by decide +kernel
theorem dX7_in_9 : decode cX7_in 9 = .ok (.lcmp, 1) := by decide +kernel
theorem dX7_in_10 : decode cX7_in 10 = .ok (.ifCond .gt 7, 3) := by decide +kernel
theorem dX7_in_13 : decode cX7_in 13 = .ok (.iconst 1, 1) := by decide +kernel
theorem dX7_in_14 : decode cX7_in 14 = .ok (.goto 4, 3) := by decide +kernel
theorem dX7_in_17 : decode cX7_in 17 = .ok (.iconst 0, 1) := by decide +kernel
theorem dX7_in_18 : decode cX7_in 18 = .ok (.ireturn, 1) := by decide +kernel
theorem dX7_has_0 : decode cX7_has 0 = .ok (.iload_n 0, 1) := by decide +kernel
theorem dX7_has_1 : decode cX7_has 1 = .ok (.iload_n 1, 1) := by decide +kernel
theorem dX7_has_2 : decode cX7_has 2 = .ok (.ishr, 1) := by decide +kernel
theorem dX7_has_3 : decode cX7_has 3 = .ok (.iconst 1, 1) := by decide +kernel
theorem dX7_has_4 : decode cX7_has 4 = .ok (.iand, 1) := by decide +kernel
theorem dX7_has_5 : decode cX7_has 5 = .ok (.iconst 1, 1) := by decide +kernel
theorem dX7_has_6 : decode cX7_has 6 = .ok (.if_icmp .ne 7, 3) := by decide +kernel
theorem dX7_has_9 : decode cX7_has 9 = .ok (.iconst 1, 1) := by decide +kernel
theorem dX7_has_10 : decode cX7_has 10 = .ok (.goto 4, 3) := by decide +kernel
theorem dX7_has_13 : decode cX7_has 13 = .ok (.iconst 0, 1) := by decide +kernel
theorem dX7_has_14 : decode cX7_has 14 = .ok (.ireturn, 1) := by decide +kernel
theorem dX7_many_0 : decode cX7_many 0 = .ok (.iconst 0, 1) := by decide +kernel
theorem dX7_many_1 : decode cX7_many 1 = .ok (.istore_n 1, 1) := by decide +kernel
theorem dX7_many_2 : decode cX7_many 2 = .ok (.iconst 0, 1) := by decide +kernel
theorem dX7_many_3 : decode cX7_many 3 = .ok (.istore_n 2, 1) := by decide +kernel
theorem dX7_many_4 : decode cX7_many 4 = .ok (.iload_n 2, 1) := by decide +kernel
theorem dX7_many_5 : decode cX7_many 5 = .ok (.bipush 14, 2) := by decide +kernel
theorem dX7_many_7 : decode cX7_many 7 = .ok (.if_icmp .ge 17, 3) := by decide +kernel
theorem dX7_many_10 : decode cX7_many 10 = .ok (.iload_n 1, 1) := by decide +kernel
theorem dX7_many_11 : decode cX7_many 11 = .ok (.iload_n 0, 1) := by decide +kernel
theorem dX7_many_12 : decode cX7_many 12 = .ok (.iload_n 2, 1) := by decide +kernel
theorem dX7_many_13 : decode cX7_many 13 = .ok (.ishr, 1) := by decide +kernel
theorem dX7_many_14 : decode cX7_many 14 = .ok (.iconst 1, 1) := by decide +kernel
theorem dX7_many_15 : decode cX7_many 15 = .ok (.iand, 1) := by decide +kernel
theorem dX7_many_16 : decode cX7_many 16 = .ok (.iadd, 1) := by decide +kernel
theorem dX7_many_17 : decode cX7_many 17 = .ok (.istore_n 1, 1) := by decide +kernel
theorem dX7_many_18 : decode cX7_many 18 = .ok (.iinc 2 1, 3) := by decide +kernel
theorem dX7_many_21 : decode cX7_many 21 = .ok (.goto (-17), 3) := by decide +kernel
theorem dX7_many_24 : decode cX7_many 24 = .ok (.iload_n 1, 1) := by decide +kernel
theorem dX7_many_25 : decode cX7_many 25 = .ok (.ireturn, 1) := by decide +kernel
set_option maxRecDepth 20000 in
theorem ggX7_noContract_X7_in : GoodIn wsX7_noContract wsX7_in := goodIn_r _ [5] (by decide +kernel) (by decide +kernel)
set_option maxRecDepth 20000 in
theorem gX7_noContract_X7_in : GoodIn wsX7_noContract (va_wsS RX7 78 yX7_in wsX7_in) := goodIn_app (goodIn_of _ (by decide +kernel)) ggX7_noContract_X7_in
theorem dX7_noContract_0 : decode cX7_noContract 0 = .ok (.iload_n 1, 1) := by decide +kernel
theorem dX7_noContract_1 : decode cX7_noContract 1 = .ok (.i2l, 1) := by decide +kernel
theorem dX7_noContract_2 : decode cX7_noContract 2 = .ok (.lconst 0, 1) := by decide +kernel
theorem dX7_noContract_3 : decode cX7_noContract 3 = .ok (.aload_n 0, 1) := by decide +kernel
theorem dX7_noContract_4 : decode cX7_noContract 4 = .ok (.getfield 75, 3) := by decide +kernel
theorem dX7_noContract_7 : decode cX7_noContract 7 = .ok (.iconst 1, 1) := by decide +kernel
theorem dX7_noContract_8 : decode cX7_noContract 8 = .ok (.isub, 1) := by decide +kernel
theorem dX7_noContract_9 : decode cX7_noContract 9 = .ok (.i2l, 1) := by decide +kernel
theorem dX7_noContract_10 : decode cX7_noContract 10 = .ok (.invokestatic 78, 3) := by decide +kernel
theorem dX7_noContract_13 : decode cX7_noContract 13 = .ok (.ifCond .ne 7, 3) := by decide +kernel
theorem dX7_noContract_16 : decode cX7_noContract 16 = .ok (.iconst 1, 1) := by decide +kernel
theorem dX7_noContract_17 : decode cX7_noContract 17 = .ok (.goto 4, 3) := by decide +kernel
theorem dX7_noContract_20 : decode cX7_noContract 20 = .ok (.iconst 0, 1) := by decide +kernel
theorem dX7_noContract_21 : decode cX7_noContract 21 = .ok (.ireturn, 1) := by decide +kernel
set_option maxRecDepth 20000 in
theorem ggX7_noPlace_X7_in : GoodIn wsX7_noPlace wsX7_in := goodIn_r _ [5] (by decide +kernel) (by decide +kernel)
set_option maxRecDepth 20000 in
theorem gX7_noPlace_X7_in : GoodIn wsX7_noPlace (va_wsS RX7 78 yX7_in wsX7_in) := goodIn_app (goodIn_of _ (by decide +kernel)) ggX7_noPlace_X7_in
theorem dX7_noPlace_0 : decode cX7_noPlace 0 = .ok (.iload_n 0, 1) := by decide +kernel
theorem dX7_noPlace_1 : decode cX7_noPlace 1 = .ok (.i2l, 1) := by decide +kernel
theorem dX7_noPlace_2 : decode cX7_noPlace 2 = .ok (.lconst 0, 1) := by decide +kernel
theorem dX7_noPlace_3 : decode cX7_noPlace 3 = .ok (.ldc2_w 82, 3) := by decide +kernel
theorem dX7_noPlace_6 : decode cX7_noPlace 6 = .ok (.invokestatic 78, 3) := by decide +kernel
theorem dX7_noPlace_9 : decode cX7_noPlace 9 = .ok (.ifCond .ne 7, 3) := by decide +kernel
theorem dX7_noPlace_12 : decode cX7_noPlace 12 = .ok (.iconst 1, 1) := by decide +kernel
theorem dX7_noPlace_13 : decode cX7_noPlace 13 = .ok (.goto 4, 3) := by decide +kernel
theorem dX7_noPlace_16 : decode cX7_noPlace 16 = .ok (.iconst 0, 1) := by decide +kernel
theorem dX7_noPlace_17 : decode cX7_noPlace 17 = .ok (.ireturn, 1) := by decide +kernel
set_option maxRecDepth 20000 in
theorem ggX7_write_X7_in : GoodIn wsX7_write wsX7_in := goodIn_r _ [8] (by decide +kernel) (by decide +kernel)
set_option maxRecDepth 20000 in
theorem gX7_write_X7_in : GoodIn wsX7_write (va_wsS RX7 78 yX7_in wsX7_in) := goodIn_app (goodIn_of _ (by decide +kernel)) ggX7_write_X7_in
theorem dX7_write_0 : decode cX7_write 0 = .ok (.aload_n 0, 1) := by decide +kernel
theorem dX7_write_1 : decode cX7_write 1 = .ok (.iconst 0, 1) := by decide +kernel
theorem dX7_write_2 : decode cX7_write 2 = .ok (.putfield 71, 3) := by decide +kernel
theorem dX7_write_5 : decode cX7_write 5 = .ok (.iload_n 1, 1) := by decide +kernel
theorem dX7_write_6 : decode cX7_write 6 = .ok (.i2l, 1) := by decide +kernel
theorem dX7_write_7 : decode cX7_write 7 = .ok (.lconst 0, 1) := by decide +kernel
theorem dX7_write_8 : decode cX7_write 8 = .ok (.ldc2_w 84, 3) := by decide +kernel
theorem dX7_write_11 : decode cX7_write 11 = .ok (.invokestatic 78, 3) := by decide +kernel
theorem dX7_write_14 : decode cX7_write 14 = .ok (.ifCond .ne 6, 3) := by decide +kernel
theorem dX7_write_17 : decode cX7_write 17 = .ok (.bipush (-2), 2) := by decide +kernel
theorem dX7_write_19 : decode cX7_write 19 = .ok (.ireturn, 1) := by decide +kernel
theorem dX7_write_20 : decode cX7_write 20 = .ok (.aload_n 0, 1) := by decide +kernel
theorem dX7_write_21 : decode cX7_write 21 = .ok (.getfield 86, 3) := by decide +kernel
theorem dX7_write_24 : decode cX7_write 24 = .ok (.bipush 64, 2) := by decide +kernel
theorem dX7_write_26 : decode cX7_write 26 = .ok (.if_icmp .ne 6, 3) := by decide +kernel
theorem dX7_write_29 : decode cX7_write 29 = .ok (.bipush (-4), 2) := by decide +kernel
theorem dX7_write_31 : decode cX7_write 31 = .ok (.ireturn, 1) := by decide +kernel
theorem dX7_write_32 : decode cX7_write 32 = .ok (.aload_n 0, 1) := by decide +kernel
theorem dX7_write_33 : decode cX7_write 33 = .ok (.getfield 7, 3) := by decide +kernel
theorem dX7_write_36 : decode cX7_write 36 = .ok (.aload_n 0, 1) := by decide +kernel
theorem dX7_write_37 : decode cX7_write 37 = .ok (.getfield 86, 3) := by decide +kernel
theorem dX7_write_40 : decode cX7_write 40 = .ok (.iload_n 1, 1) := by decide +kernel
theorem dX7_write_41 : decode cX7_write 41 = .ok (.iastore, 1) := by decide +kernel
theorem dX7_write_42 : decode cX7_write 42 = .ok (.aload_n 0, 1) := by decide +kernel
theorem dX7_write_43 : decode cX7_write 43 = .ok (.dup, 1) := by decide +kernel
theorem dX7_write_44 : decode cX7_write 44 = .ok (.getfield 86, 3) := by decide +kernel
theorem dX7_write_47 : decode cX7_write 47 = .ok (.iconst 1, 1) := by decide +kernel
theorem dX7_write_48 : decode cX7_write 48 = .ok (.iadd, 1) := by decide +kernel
theorem dX7_write_49 : decode cX7_write 49 = .ok (.putfield 86, 3) := by decide +kernel
theorem dX7_write_52 : decode cX7_write 52 = .ok (.aload_n 0, 1) := by decide +kernel
theorem dX7_write_53 : decode cX7_write 53 = .ok (.getfield 86, 3) := by decide +kernel
theorem dX7_write_56 : decode cX7_write 56 = .ok (.ireturn, 1) := by decide +kernel
theorem dX7_wipe_0 : decode cX7_wipe 0 = .ok (.aload_n 0, 1) := by decide +kernel
theorem dX7_wipe_1 : decode cX7_wipe 1 = .ok (.iconst 0, 1) := by decide +kernel
theorem dX7_wipe_2 : decode cX7_wipe 2 = .ok (.putfield 71, 3) := by decide +kernel
theorem dX7_wipe_5 : decode cX7_wipe 5 = .ok (.aload_n 0, 1) := by decide +kernel
theorem dX7_wipe_6 : decode cX7_wipe 6 = .ok (.getfield 86, 3) := by decide +kernel
theorem dX7_wipe_9 : decode cX7_wipe 9 = .ok (.istore_n 1, 1) := by decide +kernel
theorem dX7_wipe_10 : decode cX7_wipe 10 = .ok (.aload_n 0, 1) := by decide +kernel
theorem dX7_wipe_11 : decode cX7_wipe 11 = .ok (.iconst 0, 1) := by decide +kernel
theorem dX7_wipe_12 : decode cX7_wipe 12 = .ok (.putfield 86, 3) := by decide +kernel
theorem dX7_wipe_15 : decode cX7_wipe 15 = .ok (.iload_n 1, 1) := by decide +kernel
theorem dX7_wipe_16 : decode cX7_wipe 16 = .ok (.ireturn, 1) := by decide +kernel
set_option maxRecDepth 20000 in
theorem ggX7_from_X7_in : GoodIn wsX7_from wsX7_in := goodIn_r _ [7] (by decide +kernel) (by decide +kernel)
set_option maxRecDepth 20000 in
theorem gX7_from_X7_in : GoodIn wsX7_from (va_wsS RX7 78 yX7_in wsX7_in) := goodIn_app (goodIn_of _ (by decide +kernel)) ggX7_from_X7_in
theorem dX7_from_0 : decode cX7_from 0 = .ok (.aload_n 0, 1) := by decide +kernel
theorem dX7_from_1 : decode cX7_from 1 = .ok (.getfield 89, 3) := by decide +kernel
theorem dX7_from_4 : decode cX7_from 4 = .ok (.aload_n 0, 1) := by decide +kernel
theorem dX7_from_5 : decode cX7_from 5 = .ok (.getfield 86, 3) := by decide +kernel
theorem dX7_from_8 : decode cX7_from 8 = .ok (.if_icmp .eq 25, 3) := by decide +kernel
theorem dX7_from_11 : decode cX7_from 11 = .ok (.aload_n 0, 1) := by decide +kernel
theorem dX7_from_12 : decode cX7_from 12 = .ok (.getfield 7, 3) := by decide +kernel
theorem dX7_from_15 : decode cX7_from 15 = .ok (.aload_n 0, 1) := by decide +kernel
theorem dX7_from_16 : decode cX7_from 16 = .ok (.getfield 89, 3) := by decide +kernel
theorem dX7_from_19 : decode cX7_from 19 = .ok (.iaload, 1) := by decide +kernel
theorem dX7_from_20 : decode cX7_from 20 = .ok (.iload_n 1, 1) := by decide +kernel
theorem dX7_from_21 : decode cX7_from 21 = .ok (.isub, 1) := by decide +kernel
theorem dX7_from_22 : decode cX7_from 22 = .ok (.i2l, 1) := by decide +kernel
theorem dX7_from_23 : decode cX7_from 23 = .ok (.iload_n 2, 1) := by decide +kernel
theorem dX7_from_24 : decode cX7_from 24 = .ok (.i2l, 1) := by decide +kernel
theorem dX7_from_25 : decode cX7_from 25 = .ok (.iload_n 3, 1) := by decide +kernel
theorem dX7_from_26 : decode cX7_from 26 = .ok (.i2l, 1) := by decide +kernel
theorem dX7_from_27 : decode cX7_from 27 = .ok (.invokestatic 78, 3) := by decide +kernel
theorem dX7_from_30 : decode cX7_from 30 = .ok (.ifCond .ne 6, 3) := by decide +kernel
theorem dX7_from_33 : decode cX7_from 33 = .ok (.bipush (-9), 2) := by decide +kernel
theorem dX7_from_35 : decode cX7_from 35 = .ok (.ireturn, 1) := by decide +kernel
theorem dX7_from_36 : decode cX7_from 36 = .ok (.aload_n 0, 1) := by decide +kernel
theorem dX7_from_37 : decode cX7_from 37 = .ok (.dup, 1) := by decide +kernel
theorem dX7_from_38 : decode cX7_from 38 = .ok (.getfield 89, 3) := by decide +kernel
theorem dX7_from_41 : decode cX7_from 41 = .ok (.iconst 1, 1) := by decide +kernel
theorem dX7_from_42 : decode cX7_from 42 = .ok (.iadd, 1) := by decide +kernel
theorem dX7_from_43 : decode cX7_from 43 = .ok (.putfield 89, 3) := by decide +kernel
theorem dX7_from_46 : decode cX7_from 46 = .ok (.aload_n 0, 1) := by decide +kernel
theorem dX7_from_47 : decode cX7_from 47 = .ok (.getfield 7, 3) := by decide +kernel
theorem dX7_from_50 : decode cX7_from 50 = .ok (.aload_n 0, 1) := by decide +kernel
theorem dX7_from_51 : decode cX7_from 51 = .ok (.getfield 89, 3) := by decide +kernel
theorem dX7_from_54 : decode cX7_from 54 = .ok (.iconst 1, 1) := by decide +kernel
theorem dX7_from_55 : decode cX7_from 55 = .ok (.isub, 1) := by decide +kernel
theorem dX7_from_56 : decode cX7_from 56 = .ok (.iaload, 1) := by decide +kernel
theorem dX7_from_57 : decode cX7_from 57 = .ok (.iload_n 1, 1) := by decide +kernel
theorem dX7_from_58 : decode cX7_from 58 = .ok (.isub, 1) := by decide +kernel
theorem dX7_from_59 : decode cX7_from 59 = .ok (.ireturn, 1) := by decide +kernel
set_option maxRecDepth 20000 in
theorem ggX7_figure_X7_from : GoodIn wsX7_figure wsX7_from := goodIn_r _ [5, 6, 7, 8, 9, 10, 4, 11, 12, 13, 14, 15, 16, 17, 18, 19, 20, 21, 22, 23, 24, 25, 26, 27, 28, 29, 30, 31, 32, 33, 34, 35, 36, 37, 38, 39, 40, 41, 42, 43, 44, 45] (by decide +kernel) (by decide +kernel)
set_option maxRecDepth 20000 in
theorem gX7_figure_X7_from : GoodIn wsX7_figure (wsV RX7 92 RX7 yX7_from wsX7_from) := goodIn_app (goodIn_of _ (by decide +kernel)) ggX7_figure_X7_from
theorem dX7_figure_0 : decode cX7_figure 0 = .ok (.aload_n 0, 1) := by decide +kernel
theorem dX7_figure_1 : decode cX7_figure 1 = .ok (.bipush 48, 2) := by decide +kernel
theorem dX7_figure_3 : decode cX7_figure 3 = .ok (.iload_n 1, 1) := by decide +kernel
theorem dX7_figure_4 : decode cX7_figure 4 = .ok (.iload_n 2, 1) := by decide +kernel
theorem dX7_figure_5 : decode cX7_figure 5 = .ok (.invokevirtual 92, 3) := by decide +kernel
theorem dX7_figure_8 : decode cX7_figure 8 = .ok (.ireturn, 1) := by decide +kernel
set_option maxRecDepth 20000 in
theorem ggX7_day_X7_from : GoodIn wsX7_day wsX7_from := goodIn_r _ [5, 6, 7, 8, 9, 10, 4, 11, 12, 13, 14, 15, 16, 17, 18, 19, 20, 21, 22, 23, 24, 25, 26, 27, 28, 29, 30, 31, 32, 33, 34, 35, 36, 37, 38, 39, 40, 41, 42, 43, 44, 45] (by decide +kernel) (by decide +kernel)
set_option maxRecDepth 20000 in
theorem gX7_day_X7_from : GoodIn wsX7_day (wsV RX7 92 RX7 yX7_from wsX7_from) := goodIn_app (goodIn_of _ (by decide +kernel)) ggX7_day_X7_from
theorem dX7_day_0 : decode cX7_day 0 = .ok (.aload_n 0, 1) := by decide +kernel
theorem dX7_day_1 : decode cX7_day 1 = .ok (.bipush 97, 2) := by decide +kernel
theorem dX7_day_3 : decode cX7_day 3 = .ok (.iconst 0, 1) := by decide +kernel
theorem dX7_day_4 : decode cX7_day 4 = .ok (.bipush 11, 2) := by decide +kernel
theorem dX7_day_6 : decode cX7_day 6 = .ok (.invokevirtual 92, 3) := by decide +kernel
theorem dX7_day_9 : decode cX7_day 9 = .ok (.ireturn, 1) := by decide +kernel
set_option maxRecDepth 20000 in
theorem ggX7_readContract_X7_day : GoodIn wsX7_readContract wsX7_day := goodIn_r _ [7, 8, 9, 10, 6, 11, 12, 13, 14, 15, 16, 17, 22, 23, 24, 25, 26, 27, 28, 29, 30, 31, 32, 33, 34, 35, 36, 37, 38, 39, 40, 41, 42, 43, 44, 45, 46, 47, 48, 49, 50, 51, 52, 53, 54, 55] (by decide +kernel) (by decide +kernel)
set_option maxRecDepth 20000 in
theorem gX7_readContract_X7_day : GoodIn wsX7_readContract (wsV RX7 99 RX7 yX7_day wsX7_day) := goodIn_app (goodIn_of _ (by decide +kernel)) ggX7_readContract_X7_day
set_option maxRecDepth 20000 in
theorem ggX7_readContract_X7_figure : GoodIn wsX7_readContract wsX7_figure := goodIn_r _ [21, 8, 9, 10, 6, 11, 12, 13, 14, 15, 16, 17, 22, 23, 24, 25, 26, 27, 28, 29, 30, 31, 32, 33, 34, 35, 36, 37, 38, 39, 40, 41, 42, 43, 44, 45, 46, 47, 48, 49, 50, 51, 52, 53, 54, 55] (by decide +kernel) (by decide +kernel)
set_option maxRecDepth 20000 in
theorem gX7_readContract_X7_figure : GoodIn wsX7_readContract (wsV RX7 103 RX7 yX7_figure wsX7_figure) := goodIn_app (goodIn_of _ (by decide +kernel)) ggX7_readContract_X7_figure
theorem dX7_readContract_0 : decode cX7_readContract 0 = .ok (.iconst 5, 1) := by decide +kernel
theorem dX7_readContract_1 : decode cX7_readContract 1 = .ok (.aload_n 0, 1) := by decide +kernel
theorem dX7_readContract_2 : decode cX7_readContract 2 = .ok (.getfield 96, 3) := by decide +kernel
theorem dX7_readContract_5 : decode cX7_readContract 5 = .ok (.imul, 1) := by decide +kernel
theorem dX7_readContract_6 : decode cX7_readContract 6 = .ok (.istore_n 1, 1) := by decide +kernel
theorem dX7_readContract_7 : decode cX7_readContract 7 = .ok (.aload_n 0, 1) := by decide +kernel
theorem dX7_readContract_8 : decode cX7_readContract 8 = .ok (.invokevirtual 99, 3) := by decide +kernel
theorem dX7_readContract_11 : decode cX7_readContract 11 = .ok (.istore_n 2, 1) := by decide +kernel
theorem dX7_readContract_12 : decode cX7_readContract 12 = .ok (.iload_n 2, 1) := by decide +kernel
theorem dX7_readContract_13 : decode cX7_readContract 13 = .ok (.bipush (-9), 2) := by decide +kernel
theorem dX7_readContract_15 : decode cX7_readContract 15 = .ok (.if_icmp .ne 8, 3) := by decide +kernel
theorem dX7_readContract_18 : decode cX7_readContract 18 = .ok (.bipush (-9), 2) := by decide +kernel
theorem dX7_readContract_20 : decode cX7_readContract 20 = .ok (.goto 9, 3) := by decide +kernel
theorem dX7_readContract_23 : decode cX7_readContract 23 = .ok (.aload_n 0, 1) := by decide +kernel
theorem dX7_readContract_24 : decode cX7_readContract 24 = .ok (.iconst 0, 1) := by decide +kernel
theorem dX7_readContract_25 : decode cX7_readContract 25 = .ok (.iconst 1, 1) := by decide +kernel
theorem dX7_readContract_26 : decode cX7_readContract 26 = .ok (.invokevirtual 103, 3) := by decide +kernel
theorem dX7_readContract_29 : decode cX7_readContract 29 = .ok (.istore_n 3, 1) := by decide +kernel
theorem dX7_readContract_30 : decode cX7_readContract 30 = .ok (.iload_n 3, 1) := by decide +kernel
theorem dX7_readContract_31 : decode cX7_readContract 31 = .ok (.bipush (-9), 2) := by decide +kernel
theorem dX7_readContract_33 : decode cX7_readContract 33 = .ok (.if_icmp .ne 8, 3) := by decide +kernel
theorem dX7_readContract_36 : decode cX7_readContract 36 = .ok (.bipush (-9), 2) := by decide +kernel
theorem dX7_readContract_38 : decode cX7_readContract 38 = .ok (.goto 21, 3) := by decide +kernel
theorem dX7_readContract_41 : decode cX7_readContract 41 = .ok (.iload_n 3, 1) := by decide +kernel
theorem dX7_readContract_42 : decode cX7_readContract 42 = .ok (.ifCond .ne 10, 3) := by decide +kernel
theorem dX7_readContract_45 : decode cX7_readContract 45 = .ok (.aload_n 0, 1) := by decide +kernel
theorem dX7_readContract_46 : decode cX7_readContract 46 = .ok (.invokevirtual 99, 3) := by decide +kernel
theorem dX7_readContract_49 : decode cX7_readContract 49 = .ok (.goto 10, 3) := by decide +kernel
theorem dX7_readContract_52 : decode cX7_readContract 52 = .ok (.aload_n 0, 1) := by decide +kernel
theorem dX7_readContract_53 : decode cX7_readContract 53 = .ok (.iconst 0, 1) := by decide +kernel
theorem dX7_readContract_54 : decode cX7_readContract 54 = .ok (.bipush 9, 2) := by decide +kernel
theorem dX7_readContract_56 : decode cX7_readContract 56 = .ok (.invokevirtual 103, 3) := by decide +kernel
theorem dX7_readContract_59 : decode cX7_readContract 59 = .ok (.istore 4, 2) := by decide +kernel
theorem dX7_readContract_61 : decode cX7_readContract 61 = .ok (.iload 4, 2) := by decide +kernel
theorem dX7_readContract_63 : decode cX7_readContract 63 = .ok (.bipush (-9), 2) := by decide +kernel
theorem dX7_readContract_65 : decode cX7_readContract 65 = .ok (.if_icmp .ne 8, 3) := by decide +kernel
theorem dX7_readContract_68 : decode cX7_readContract 68 = .ok (.bipush (-9), 2) := by decide +kernel
theorem dX7_readContract_70 : decode cX7_readContract 70 = .ok (.goto 7, 3) := by decide +kernel
theorem dX7_readContract_73 : decode cX7_readContract 73 = .ok (.aload_n 0, 1) := by decide +kernel
theorem dX7_readContract_74 : decode cX7_readContract 74 = .ok (.invokevirtual 99, 3) := by decide +kernel
theorem dX7_readContract_77 : decode cX7_readContract 77 = .ok (.istore 5, 2) := by decide +kernel
theorem dX7_readContract_79 : decode cX7_readContract 79 = .ok (.iload 5, 2) := by decide +kernel
theorem dX7_readContract_81 : decode cX7_readContract 81 = .ok (.bipush (-9), 2) := by decide +kernel
theorem dX7_readContract_83 : decode cX7_readContract 83 = .ok (.if_icmp .ne 8, 3) := by decide +kernel
theorem dX7_readContract_86 : decode cX7_readContract 86 = .ok (.bipush (-9), 2) := by decide +kernel
theorem dX7_readContract_88 : decode cX7_readContract 88 = .ok (.goto 10, 3) := by decide +kernel
theorem dX7_readContract_91 : decode cX7_readContract 91 = .ok (.aload_n 0, 1) := by decide +kernel
theorem dX7_readContract_92 : decode cX7_readContract 92 = .ok (.iconst 0, 1) := by decide +kernel
theorem dX7_readContract_93 : decode cX7_readContract 93 = .ok (.bipush 9, 2) := by decide +kernel
theorem dX7_readContract_95 : decode cX7_readContract 95 = .ok (.invokevirtual 103, 3) := by decide +kernel
theorem dX7_readContract_98 : decode cX7_readContract 98 = .ok (.istore 6, 2) := by decide +kernel
theorem dX7_readContract_100 : decode cX7_readContract 100 = .ok (.iload 6, 2) := by decide +kernel
theorem dX7_readContract_102 : decode cX7_readContract 102 = .ok (.bipush (-9), 2) := by decide +kernel
theorem dX7_readContract_104 : decode cX7_readContract 104 = .ok (.if_icmp .ne 5, 3) := by decide +kernel
theorem dX7_readContract_107 : decode cX7_readContract 107 = .ok (.iconst 0, 1) := by decide +kernel
theorem dX7_readContract_108 : decode cX7_readContract 108 = .ok (.ireturn, 1) := by decide +kernel
theorem dX7_readContract_109 : decode cX7_readContract 109 = .ok (.aload_n 0, 1) := by decide +kernel
theorem dX7_readContract_110 : decode cX7_readContract 110 = .ok (.getfield 25, 3) := by decide +kernel
theorem dX7_readContract_113 : decode cX7_readContract 113 = .ok (.iload_n 1, 1) := by decide +kernel
theorem dX7_readContract_114 : decode cX7_readContract 114 = .ok (.iload_n 2, 1) := by decide +kernel
theorem dX7_readContract_115 : decode cX7_readContract 115 = .ok (.iastore, 1) := by decide +kernel
theorem dX7_readContract_116 : decode cX7_readContract 116 = .ok (.aload_n 0, 1) := by decide +kernel
theorem dX7_readContract_117 : decode cX7_readContract 117 = .ok (.getfield 25, 3) := by decide +kernel
theorem dX7_readContract_120 : decode cX7_readContract 120 = .ok (.iload_n 1, 1) := by decide +kernel
theorem dX7_readContract_121 : decode cX7_readContract 121 = .ok (.iconst 1, 1) := by decide +kernel
theorem dX7_readContract_122 : decode cX7_readContract 122 = .ok (.iadd, 1) := by decide +kernel
theorem dX7_readContract_123 : decode cX7_readContract 123 = .ok (.iload_n 3, 1) := by decide +kernel
theorem dX7_readContract_124 : decode cX7_readContract 124 = .ok (.iastore, 1) := by decide +kernel
theorem dX7_readContract_125 : decode cX7_readContract 125 = .ok (.aload_n 0, 1) := by decide +kernel
theorem dX7_readContract_126 : decode cX7_readContract 126 = .ok (.getfield 25, 3) := by decide +kernel
theorem dX7_readContract_129 : decode cX7_readContract 129 = .ok (.iload_n 1, 1) := by decide +kernel
theorem dX7_readContract_130 : decode cX7_readContract 130 = .ok (.iconst 2, 1) := by decide +kernel
theorem dX7_readContract_131 : decode cX7_readContract 131 = .ok (.iadd, 1) := by decide +kernel
theorem dX7_readContract_132 : decode cX7_readContract 132 = .ok (.iload 4, 2) := by decide +kernel
theorem dX7_readContract_134 : decode cX7_readContract 134 = .ok (.iastore, 1) := by decide +kernel
theorem dX7_readContract_135 : decode cX7_readContract 135 = .ok (.aload_n 0, 1) := by decide +kernel
theorem dX7_readContract_136 : decode cX7_readContract 136 = .ok (.getfield 25, 3) := by decide +kernel
theorem dX7_readContract_139 : decode cX7_readContract 139 = .ok (.iload_n 1, 1) := by decide +kernel
theorem dX7_readContract_140 : decode cX7_readContract 140 = .ok (.iconst 3, 1) := by decide +kernel
theorem dX7_readContract_141 : decode cX7_readContract 141 = .ok (.iadd, 1) := by decide +kernel
theorem dX7_readContract_142 : decode cX7_readContract 142 = .ok (.iload 5, 2) := by decide +kernel
theorem dX7_readContract_144 : decode cX7_readContract 144 = .ok (.iastore, 1) := by decide +kernel
theorem dX7_readContract_145 : decode cX7_readContract 145 = .ok (.aload_n 0, 1) := by decide +kernel
theorem dX7_readContract_146 : decode cX7_readContract 146 = .ok (.getfield 25, 3) := by decide +kernel
theorem dX7_readContract_149 : decode cX7_readContract 149 = .ok (.iload_n 1, 1) := by decide +kernel
theorem dX7_readContract_150 : decode cX7_readContract 150 = .ok (.iconst 4, 1) := by decide +kernel
theorem dX7_readContract_151 : decode cX7_readContract 151 = .ok (.iadd, 1) := by decide +kernel
theorem dX7_readContract_152 : decode cX7_readContract 152 = .ok (.iload 6, 2) := by decide +kernel
theorem dX7_readContract_154 : decode cX7_readContract 154 = .ok (.iastore, 1) := by decide +kernel
theorem dX7_readContract_155 : decode cX7_readContract 155 = .ok (.aload_n 0, 1) := by decide +kernel
theorem dX7_readContract_156 : decode cX7_readContract 156 = .ok (.dup, 1) := by decide +kernel
theorem dX7_readContract_157 : decode cX7_readContract 157 = .ok (.getfield 96, 3) := by decide +kernel
theorem dX7_readContract_160 : decode cX7_readContract 160 = .ok (.iconst 1, 1) := by decide +kernel
theorem dX7_readContract_161 : decode cX7_readContract 161 = .ok (.iadd, 1) := by decide +kernel
theorem dX7_readContract_162 : decode cX7_readContract 162 = .ok (.putfield 96, 3) := by decide +kernel
theorem dX7_readContract_165 : decode cX7_readContract 165 = .ok (.iconst 1, 1) := by decide +kernel
theorem dX7_readContract_166 : decode cX7_readContract 166 = .ok (.ireturn, 1) := by decide +kernel
set_option maxRecDepth 20000 in
theorem ggX7_readBirth_X7_day : GoodIn wsX7_readBirth wsX7_day := goodIn_r _ [7, 8, 9, 10, 6, 11, 12, 13, 14, 15, 16, 17, 22, 23, 24, 25, 26, 27, 28, 29, 30, 31, 32, 33, 34, 35, 36, 37, 38, 39, 40, 41, 42, 43, 44, 45, 46, 47, 48, 49, 50, 51, 52, 53, 54, 55] (by decide +kernel) (by decide +kernel)
set_option maxRecDepth 20000 in
theorem gX7_readBirth_X7_day : GoodIn wsX7_readBirth (wsV RX7 99 RX7 yX7_day wsX7_day) := goodIn_app (goodIn_of _ (by decide +kernel)) ggX7_readBirth_X7_day
set_option maxRecDepth 20000 in
theorem ggX7_readBirth_X7_figure : GoodIn wsX7_readBirth wsX7_figure := goodIn_r _ [21, 8, 9, 10, 6, 11, 12, 13, 14, 15, 16, 17, 22, 23, 24, 25, 26, 27, 28, 29, 30, 31, 32, 33, 34, 35, 36, 37, 38, 39, 40, 41, 42, 43, 44, 45, 46, 47, 48, 49, 50, 51, 52, 53, 54, 55] (by decide +kernel) (by decide +kernel)
set_option maxRecDepth 20000 in
theorem gX7_readBirth_X7_figure : GoodIn wsX7_readBirth (wsV RX7 103 RX7 yX7_figure wsX7_figure) := goodIn_app (goodIn_of _ (by decide +kernel)) ggX7_readBirth_X7_figure
theorem dX7_readBirth_0 : decode cX7_readBirth 0 = .ok (.aload_n 0, 1) := by decide +kernel
theorem dX7_readBirth_1 : decode cX7_readBirth 1 = .ok (.invokevirtual 99, 3) := by decide +kernel
theorem dX7_readBirth_4 : decode cX7_readBirth 4 = .ok (.istore_n 1, 1) := by decide +kernel
theorem dX7_readBirth_5 : decode cX7_readBirth 5 = .ok (.iload_n 1, 1) := by decide +kernel
theorem dX7_readBirth_6 : decode cX7_readBirth 6 = .ok (.bipush (-9), 2) := by decide +kernel
theorem dX7_readBirth_8 : decode cX7_readBirth 8 = .ok (.if_icmp .ne 8, 3) := by decide +kernel
theorem dX7_readBirth_11 : decode cX7_readBirth 11 = .ok (.bipush (-9), 2) := by decide +kernel
theorem dX7_readBirth_13 : decode cX7_readBirth 13 = .ok (.goto 10, 3) := by decide +kernel
theorem dX7_readBirth_16 : decode cX7_readBirth 16 = .ok (.aload_n 0, 1) := by decide +kernel
theorem dX7_readBirth_17 : decode cX7_readBirth 17 = .ok (.iconst 0, 1) := by decide +kernel
theorem dX7_readBirth_18 : decode cX7_readBirth 18 = .ok (.bipush 9, 2) := by decide +kernel
theorem dX7_readBirth_20 : decode cX7_readBirth 20 = .ok (.invokevirtual 103, 3) := by decide +kernel
theorem dX7_readBirth_23 : decode cX7_readBirth 23 = .ok (.istore_n 2, 1) := by decide +kernel
theorem dX7_readBirth_24 : decode cX7_readBirth 24 = .ok (.iload_n 2, 1) := by decide +kernel
theorem dX7_readBirth_25 : decode cX7_readBirth 25 = .ok (.bipush (-9), 2) := by decide +kernel
theorem dX7_readBirth_27 : decode cX7_readBirth 27 = .ok (.if_icmp .ne 5, 3) := by decide +kernel
theorem dX7_readBirth_30 : decode cX7_readBirth 30 = .ok (.iconst 0, 1) := by decide +kernel
theorem dX7_readBirth_31 : decode cX7_readBirth 31 = .ok (.ireturn, 1) := by decide +kernel
theorem dX7_readBirth_32 : decode cX7_readBirth 32 = .ok (.aload_n 0, 1) := by decide +kernel
theorem dX7_readBirth_33 : decode cX7_readBirth 33 = .ok (.getfield 28, 3) := by decide +kernel
theorem dX7_readBirth_36 : decode cX7_readBirth 36 = .ok (.iconst 2, 1) := by decide +kernel
theorem dX7_readBirth_37 : decode cX7_readBirth 37 = .ok (.aload_n 0, 1) := by decide +kernel
theorem dX7_readBirth_38 : decode cX7_readBirth 38 = .ok (.getfield 107, 3) := by decide +kernel
theorem dX7_readBirth_41 : decode cX7_readBirth 41 = .ok (.imul, 1) := by decide +kernel
theorem dX7_readBirth_42 : decode cX7_readBirth 42 = .ok (.iload_n 1, 1) := by decide +kernel
theorem dX7_readBirth_43 : decode cX7_readBirth 43 = .ok (.iastore, 1) := by decide +kernel
theorem dX7_readBirth_44 : decode cX7_readBirth 44 = .ok (.aload_n 0, 1) := by decide +kernel
theorem dX7_readBirth_45 : decode cX7_readBirth 45 = .ok (.getfield 28, 3) := by decide +kernel
theorem dX7_readBirth_48 : decode cX7_readBirth 48 = .ok (.iconst 2, 1) := by decide +kernel
theorem dX7_readBirth_49 : decode cX7_readBirth 49 = .ok (.aload_n 0, 1) := by decide +kernel
theorem dX7_readBirth_50 : decode cX7_readBirth 50 = .ok (.getfield 107, 3) := by decide +kernel
theorem dX7_readBirth_53 : decode cX7_readBirth 53 = .ok (.imul, 1) := by decide +kernel
theorem dX7_readBirth_54 : decode cX7_readBirth 54 = .ok (.iconst 1, 1) := by decide +kernel
theorem dX7_readBirth_55 : decode cX7_readBirth 55 = .ok (.iadd, 1) := by decide +kernel
theorem dX7_readBirth_56 : decode cX7_readBirth 56 = .ok (.iload_n 2, 1) := by decide +kernel
theorem dX7_readBirth_57 : decode cX7_readBirth 57 = .ok (.iastore, 1) := by decide +kernel
theorem dX7_readBirth_58 : decode cX7_readBirth 58 = .ok (.aload_n 0, 1) := by decide +kernel
theorem dX7_readBirth_59 : decode cX7_readBirth 59 = .ok (.dup, 1) := by decide +kernel
theorem dX7_readBirth_60 : decode cX7_readBirth 60 = .ok (.getfield 107, 3) := by decide +kernel
theorem dX7_readBirth_63 : decode cX7_readBirth 63 = .ok (.iconst 1, 1) := by decide +kernel
theorem dX7_readBirth_64 : decode cX7_readBirth 64 = .ok (.iadd, 1) := by decide +kernel
theorem dX7_readBirth_65 : decode cX7_readBirth 65 = .ok (.putfield 107, 3) := by decide +kernel
theorem dX7_readBirth_68 : decode cX7_readBirth 68 = .ok (.iconst 1, 1) := by decide +kernel
theorem dX7_readBirth_69 : decode cX7_readBirth 69 = .ok (.ireturn, 1) := by decide +kernel
set_option maxRecDepth 20000 in
theorem ggX7_readTide_X7_figure : GoodIn wsX7_readTide wsX7_figure := goodIn_r _ [7, 8, 9, 10, 6, 11, 12, 13, 14, 15, 16, 17, 18, 19, 20, 21, 22, 23, 24, 25, 26, 27, 28, 29, 30, 31, 32, 33, 34, 35, 36, 37, 38, 39, 40, 41, 42, 43, 44, 45, 46, 47, 48, 49, 50, 51] (by decide +kernel) (by decide +kernel)
set_option maxRecDepth 20000 in
theorem gX7_readTide_X7_figure : GoodIn wsX7_readTide (wsV RX7 103 RX7 yX7_figure wsX7_figure) := goodIn_app (goodIn_of _ (by decide +kernel)) ggX7_readTide_X7_figure
theorem dX7_readTide_0 : decode cX7_readTide 0 = .ok (.aload_n 0, 1) := by decide +kernel
theorem dX7_readTide_1 : decode cX7_readTide 1 = .ok (.iconst 2, 1) := by decide +kernel
theorem dX7_readTide_2 : decode cX7_readTide 2 = .ok (.bipush 9, 2) := by decide +kernel
theorem dX7_readTide_4 : decode cX7_readTide 4 = .ok (.invokevirtual 103, 3) := by decide +kernel
theorem dX7_readTide_7 : decode cX7_readTide 7 = .ok (.istore_n 1, 1) := by decide +kernel
theorem dX7_readTide_8 : decode cX7_readTide 8 = .ok (.iload_n 1, 1) := by decide +kernel
theorem dX7_readTide_9 : decode cX7_readTide 9 = .ok (.bipush (-9), 2) := by decide +kernel
theorem dX7_readTide_11 : decode cX7_readTide 11 = .ok (.if_icmp .ne 8, 3) := by decide +kernel
theorem dX7_readTide_14 : decode cX7_readTide 14 = .ok (.bipush (-9), 2) := by decide +kernel
theorem dX7_readTide_16 : decode cX7_readTide 16 = .ok (.goto 10, 3) := by decide +kernel
theorem dX7_readTide_19 : decode cX7_readTide 19 = .ok (.aload_n 0, 1) := by decide +kernel
theorem dX7_readTide_20 : decode cX7_readTide 20 = .ok (.iconst 0, 1) := by decide +kernel
theorem dX7_readTide_21 : decode cX7_readTide 21 = .ok (.bipush 9, 2) := by decide +kernel
theorem dX7_readTide_23 : decode cX7_readTide 23 = .ok (.invokevirtual 103, 3) := by decide +kernel
theorem dX7_readTide_26 : decode cX7_readTide 26 = .ok (.istore_n 2, 1) := by decide +kernel
theorem dX7_readTide_27 : decode cX7_readTide 27 = .ok (.iload_n 2, 1) := by decide +kernel
theorem dX7_readTide_28 : decode cX7_readTide 28 = .ok (.bipush (-9), 2) := by decide +kernel
theorem dX7_readTide_30 : decode cX7_readTide 30 = .ok (.if_icmp .ne 5, 3) := by decide +kernel
theorem dX7_readTide_33 : decode cX7_readTide 33 = .ok (.iconst 0, 1) := by decide +kernel
theorem dX7_readTide_34 : decode cX7_readTide 34 = .ok (.ireturn, 1) := by decide +kernel
theorem dX7_readTide_35 : decode cX7_readTide 35 = .ok (.aload_n 0, 1) := by decide +kernel
theorem dX7_readTide_36 : decode cX7_readTide 36 = .ok (.getfield 31, 3) := by decide +kernel
theorem dX7_readTide_39 : decode cX7_readTide 39 = .ok (.iconst 2, 1) := by decide +kernel
theorem dX7_readTide_40 : decode cX7_readTide 40 = .ok (.aload_n 0, 1) := by decide +kernel
theorem dX7_readTide_41 : decode cX7_readTide 41 = .ok (.getfield 110, 3) := by decide +kernel
theorem dX7_readTide_44 : decode cX7_readTide 44 = .ok (.imul, 1) := by decide +kernel
theorem dX7_readTide_45 : decode cX7_readTide 45 = .ok (.iload_n 1, 1) := by decide +kernel
theorem dX7_readTide_46 : decode cX7_readTide 46 = .ok (.iastore, 1) := by decide +kernel
theorem dX7_readTide_47 : decode cX7_readTide 47 = .ok (.aload_n 0, 1) := by decide +kernel
theorem dX7_readTide_48 : decode cX7_readTide 48 = .ok (.getfield 31, 3) := by decide +kernel
theorem dX7_readTide_51 : decode cX7_readTide 51 = .ok (.iconst 2, 1) := by decide +kernel
theorem dX7_readTide_52 : decode cX7_readTide 52 = .ok (.aload_n 0, 1) := by decide +kernel
theorem dX7_readTide_53 : decode cX7_readTide 53 = .ok (.getfield 110, 3) := by decide +kernel
theorem dX7_readTide_56 : decode cX7_readTide 56 = .ok (.imul, 1) := by decide +kernel
theorem dX7_readTide_57 : decode cX7_readTide 57 = .ok (.iconst 1, 1) := by decide +kernel
theorem dX7_readTide_58 : decode cX7_readTide 58 = .ok (.iadd, 1) := by decide +kernel
theorem dX7_readTide_59 : decode cX7_readTide 59 = .ok (.iload_n 2, 1) := by decide +kernel
theorem dX7_readTide_60 : decode cX7_readTide 60 = .ok (.iastore, 1) := by decide +kernel
theorem dX7_readTide_61 : decode cX7_readTide 61 = .ok (.aload_n 0, 1) := by decide +kernel
theorem dX7_readTide_62 : decode cX7_readTide 62 = .ok (.dup, 1) := by decide +kernel
theorem dX7_readTide_63 : decode cX7_readTide 63 = .ok (.getfield 110, 3) := by decide +kernel
theorem dX7_readTide_66 : decode cX7_readTide 66 = .ok (.iconst 1, 1) := by decide +kernel
theorem dX7_readTide_67 : decode cX7_readTide 67 = .ok (.iadd, 1) := by decide +kernel
theorem dX7_readTide_68 : decode cX7_readTide 68 = .ok (.putfield 110, 3) := by decide +kernel
theorem dX7_readTide_71 : decode cX7_readTide 71 = .ok (.iconst 1, 1) := by decide +kernel
theorem dX7_readTide_72 : decode cX7_readTide 72 = .ok (.ireturn, 1) := by decide +kernel
set_option maxRecDepth 20000 in
theorem ggX7_readDebt_X7_figure : GoodIn wsX7_readDebt wsX7_figure := goodIn_r _ [10, 11, 12, 13, 9, 14, 1, 2, 3, 15, 16, 17, 18, 19, 20, 21, 22, 23, 24, 25, 26, 27, 28, 29, 30, 31, 32, 33, 34, 35, 36, 37, 38, 39, 40, 41, 42, 43, 44, 45, 46, 47, 48, 49, 50, 51] (by decide +kernel) (by decide +kernel)
set_option maxRecDepth 20000 in
theorem gX7_readDebt_X7_figure : GoodIn wsX7_readDebt (wsV RX7 103 RX7 yX7_figure wsX7_figure) := goodIn_app (goodIn_of _ (by decide +kernel)) ggX7_readDebt_X7_figure
theorem dX7_readDebt_0 : decode cX7_readDebt 0 = .ok (.aload_n 0, 1) := by decide +kernel
theorem dX7_readDebt_1 : decode cX7_readDebt 1 = .ok (.iconst 0, 1) := by decide +kernel
theorem dX7_readDebt_2 : decode cX7_readDebt 2 = .ok (.iconst 3, 1) := by decide +kernel
theorem dX7_readDebt_3 : decode cX7_readDebt 3 = .ok (.invokevirtual 103, 3) := by decide +kernel
theorem dX7_readDebt_6 : decode cX7_readDebt 6 = .ok (.istore_n 1, 1) := by decide +kernel
theorem dX7_readDebt_7 : decode cX7_readDebt 7 = .ok (.iload_n 1, 1) := by decide +kernel
theorem dX7_readDebt_8 : decode cX7_readDebt 8 = .ok (.bipush (-9), 2) := by decide +kernel
theorem dX7_readDebt_10 : decode cX7_readDebt 10 = .ok (.if_icmp .eq 30, 3) := by decide +kernel
theorem dX7_readDebt_13 : decode cX7_readDebt 13 = .ok (.aload_n 0, 1) := by decide +kernel
theorem dX7_readDebt_14 : decode cX7_readDebt 14 = .ok (.getfield 89, 3) := by decide +kernel
theorem dX7_readDebt_17 : decode cX7_readDebt 17 = .ok (.aload_n 0, 1) := by decide +kernel
theorem dX7_readDebt_18 : decode cX7_readDebt 18 = .ok (.getfield 86, 3) := by decide +kernel
theorem dX7_readDebt_21 : decode cX7_readDebt 21 = .ok (.if_icmp .ge 21, 3) := by decide +kernel
theorem dX7_readDebt_24 : decode cX7_readDebt 24 = .ok (.aload_n 0, 1) := by decide +kernel
theorem dX7_readDebt_25 : decode cX7_readDebt 25 = .ok (.getfield 7, 3) := by decide +kernel
theorem dX7_readDebt_28 : decode cX7_readDebt 28 = .ok (.aload_n 0, 1) := by decide +kernel
theorem dX7_readDebt_29 : decode cX7_readDebt 29 = .ok (.getfield 89, 3) := by decide +kernel
theorem dX7_readDebt_32 : decode cX7_readDebt 32 = .ok (.iaload, 1) := by decide +kernel
theorem dX7_readDebt_33 : decode cX7_readDebt 33 = .ok (.bipush 48, 2) := by decide +kernel
theorem dX7_readDebt_35 : decode cX7_readDebt 35 = .ok (.isub, 1) := by decide +kernel
theorem dX7_readDebt_36 : decode cX7_readDebt 36 = .ok (.iload_n 1, 1) := by decide +kernel
theorem dX7_readDebt_37 : decode cX7_readDebt 37 = .ok (.if_icmp .ne 5, 3) := by decide +kernel
theorem dX7_readDebt_40 : decode cX7_readDebt 40 = .ok (.iconst 0, 1) := by decide +kernel
theorem dX7_readDebt_41 : decode cX7_readDebt 41 = .ok (.ireturn, 1) := by decide +kernel
theorem dX7_readDebt_42 : decode cX7_readDebt 42 = .ok (.aload_n 0, 1) := by decide +kernel
theorem dX7_readDebt_43 : decode cX7_readDebt 43 = .ok (.iconst 0, 1) := by decide +kernel
theorem dX7_readDebt_44 : decode cX7_readDebt 44 = .ok (.iconst 3, 1) := by decide +kernel
theorem dX7_readDebt_45 : decode cX7_readDebt 45 = .ok (.invokevirtual 103, 3) := by decide +kernel
theorem dX7_readDebt_48 : decode cX7_readDebt 48 = .ok (.istore_n 2, 1) := by decide +kernel
theorem dX7_readDebt_49 : decode cX7_readDebt 49 = .ok (.iload_n 2, 1) := by decide +kernel
theorem dX7_readDebt_50 : decode cX7_readDebt 50 = .ok (.bipush (-9), 2) := by decide +kernel
theorem dX7_readDebt_52 : decode cX7_readDebt 52 = .ok (.if_icmp .ne 8, 3) := by decide +kernel
theorem dX7_readDebt_55 : decode cX7_readDebt 55 = .ok (.bipush (-9), 2) := by decide +kernel
theorem dX7_readDebt_57 : decode cX7_readDebt 57 = .ok (.goto 10, 3) := by decide +kernel
theorem dX7_readDebt_60 : decode cX7_readDebt 60 = .ok (.aload_n 0, 1) := by decide +kernel
theorem dX7_readDebt_61 : decode cX7_readDebt 61 = .ok (.iconst 1, 1) := by decide +kernel
theorem dX7_readDebt_62 : decode cX7_readDebt 62 = .ok (.bipush 9, 2) := by decide +kernel
theorem dX7_readDebt_64 : decode cX7_readDebt 64 = .ok (.invokevirtual 103, 3) := by decide +kernel
theorem dX7_readDebt_67 : decode cX7_readDebt 67 = .ok (.istore_n 3, 1) := by decide +kernel
theorem dX7_readDebt_68 : decode cX7_readDebt 68 = .ok (.iload_n 3, 1) := by decide +kernel
theorem dX7_readDebt_69 : decode cX7_readDebt 69 = .ok (.bipush (-9), 2) := by decide +kernel
theorem dX7_readDebt_71 : decode cX7_readDebt 71 = .ok (.if_icmp .ne 5, 3) := by decide +kernel
theorem dX7_readDebt_74 : decode cX7_readDebt 74 = .ok (.iconst 0, 1) := by decide +kernel
theorem dX7_readDebt_75 : decode cX7_readDebt 75 = .ok (.ireturn, 1) := by decide +kernel
theorem dX7_readDebt_76 : decode cX7_readDebt 76 = .ok (.aload_n 0, 1) := by decide +kernel
theorem dX7_readDebt_77 : decode cX7_readDebt 77 = .ok (.getfield 34, 3) := by decide +kernel
theorem dX7_readDebt_80 : decode cX7_readDebt 80 = .ok (.iconst 3, 1) := by decide +kernel
theorem dX7_readDebt_81 : decode cX7_readDebt 81 = .ok (.aload_n 0, 1) := by decide +kernel
theorem dX7_readDebt_82 : decode cX7_readDebt 82 = .ok (.getfield 113, 3) := by decide +kernel
theorem dX7_readDebt_85 : decode cX7_readDebt 85 = .ok (.imul, 1) := by decide +kernel
theorem dX7_readDebt_86 : decode cX7_readDebt 86 = .ok (.iload_n 1, 1) := by decide +kernel
theorem dX7_readDebt_87 : decode cX7_readDebt 87 = .ok (.iastore, 1) := by decide +kernel
theorem dX7_readDebt_88 : decode cX7_readDebt 88 = .ok (.aload_n 0, 1) := by decide +kernel
theorem dX7_readDebt_89 : decode cX7_readDebt 89 = .ok (.getfield 34, 3) := by decide +kernel
theorem dX7_readDebt_92 : decode cX7_readDebt 92 = .ok (.iconst 3, 1) := by decide +kernel
theorem dX7_readDebt_93 : decode cX7_readDebt 93 = .ok (.aload_n 0, 1) := by decide +kernel
theorem dX7_readDebt_94 : decode cX7_readDebt 94 = .ok (.getfield 113, 3) := by decide +kernel
theorem dX7_readDebt_97 : decode cX7_readDebt 97 = .ok (.imul, 1) := by decide +kernel
theorem dX7_readDebt_98 : decode cX7_readDebt 98 = .ok (.iconst 1, 1) := by decide +kernel
theorem dX7_readDebt_99 : decode cX7_readDebt 99 = .ok (.iadd, 1) := by decide +kernel
theorem dX7_readDebt_100 : decode cX7_readDebt 100 = .ok (.iload_n 2, 1) := by decide +kernel
theorem dX7_readDebt_101 : decode cX7_readDebt 101 = .ok (.iastore, 1) := by decide +kernel
theorem dX7_readDebt_102 : decode cX7_readDebt 102 = .ok (.aload_n 0, 1) := by decide +kernel
theorem dX7_readDebt_103 : decode cX7_readDebt 103 = .ok (.getfield 34, 3) := by decide +kernel
theorem dX7_readDebt_106 : decode cX7_readDebt 106 = .ok (.iconst 3, 1) := by decide +kernel
theorem dX7_readDebt_107 : decode cX7_readDebt 107 = .ok (.aload_n 0, 1) := by decide +kernel
theorem dX7_readDebt_108 : decode cX7_readDebt 108 = .ok (.getfield 113, 3) := by decide +kernel
theorem dX7_readDebt_111 : decode cX7_readDebt 111 = .ok (.imul, 1) := by decide +kernel
theorem dX7_readDebt_112 : decode cX7_readDebt 112 = .ok (.iconst 2, 1) := by decide +kernel
theorem dX7_readDebt_113 : decode cX7_readDebt 113 = .ok (.iadd, 1) := by decide +kernel
theorem dX7_readDebt_114 : decode cX7_readDebt 114 = .ok (.iload_n 3, 1) := by decide +kernel
theorem dX7_readDebt_115 : decode cX7_readDebt 115 = .ok (.iastore, 1) := by decide +kernel
theorem dX7_readDebt_116 : decode cX7_readDebt 116 = .ok (.aload_n 0, 1) := by decide +kernel
theorem dX7_readDebt_117 : decode cX7_readDebt 117 = .ok (.dup, 1) := by decide +kernel
theorem dX7_readDebt_118 : decode cX7_readDebt 118 = .ok (.getfield 113, 3) := by decide +kernel
theorem dX7_readDebt_121 : decode cX7_readDebt 121 = .ok (.iconst 1, 1) := by decide +kernel
theorem dX7_readDebt_122 : decode cX7_readDebt 122 = .ok (.iadd, 1) := by decide +kernel
theorem dX7_readDebt_123 : decode cX7_readDebt 123 = .ok (.putfield 113, 3) := by decide +kernel
theorem dX7_readDebt_126 : decode cX7_readDebt 126 = .ok (.iconst 1, 1) := by decide +kernel
theorem dX7_readDebt_127 : decode cX7_readDebt 127 = .ok (.ireturn, 1) := by decide +kernel
set_option maxRecDepth 20000 in
theorem ggX7_readPart_X7_readContract : GoodIn wsX7_readPart wsX7_readContract := goodIn_r _ [11, 3, 12, 13, 14, 15, 10, 16, 17, 18, 19, 20, 2, 21, 1, 22, 23, 24, 25, 26, 27, 28, 44, 45, 46, 47, 48, 49, 50, 51, 52, 53, 54, 55, 56, 57, 58, 59, 60, 61, 62, 63, 64, 65, 66, 67, 68, 69, 70, 71, 72, 73, 74, 75, 76, 77] (by decide +kernel) (by decide +kernel)
set_option maxRecDepth 20000 in
theorem gX7_readPart_X7_readContract : GoodIn wsX7_readPart (wsV RX7 116 RX7 yX7_readContract wsX7_readContract) := goodIn_app (goodIn_of _ (by decide +kernel)) ggX7_readPart_X7_readContract
set_option maxRecDepth 20000 in
theorem ggX7_readPart_X7_readBirth : GoodIn wsX7_readPart wsX7_readBirth := goodIn_r _ [32, 33, 4, 13, 14, 15, 10, 16, 17, 18, 19, 20, 2, 21, 1, 22, 23, 24, 25, 26, 27, 28, 44, 45, 46, 47, 48, 49, 50, 51, 52, 53, 54, 55, 56, 57, 58, 59, 60, 61, 62, 63, 64, 65, 66, 67, 68, 69, 70, 71, 72, 73, 74, 75, 76, 77] (by decide +kernel) (by decide +kernel)
set_option maxRecDepth 20000 in
theorem gX7_readPart_X7_readBirth : GoodIn wsX7_readPart (wsV RX7 119 RX7 yX7_readBirth wsX7_readBirth) := goodIn_app (goodIn_of _ (by decide +kernel)) ggX7_readPart_X7_readBirth
set_option maxRecDepth 20000 in
theorem ggX7_readPart_X7_readTide : GoodIn wsX7_readPart wsX7_readTide := goodIn_r _ [37, 38, 5, 25, 26, 27, 10, 28, 17, 18, 19, 20, 2, 21, 1, 22, 23, 24, 44, 45, 46, 47, 48, 49, 50, 51, 52, 53, 54, 55, 56, 57, 58, 59, 60, 61, 62, 63, 64, 65, 66, 67, 68, 69, 70, 71, 72, 73, 74, 75, 76, 77] (by decide +kernel) (by decide +kernel)
set_option maxRecDepth 20000 in
theorem gX7_readPart_X7_readTide : GoodIn wsX7_readPart (wsV RX7 121 RX7 yX7_readTide wsX7_readTide) := goodIn_app (goodIn_of _ (by decide +kernel)) ggX7_readPart_X7_readTide
set_option maxRecDepth 20000 in
theorem ggX7_readPart_X7_readDebt : GoodIn wsX7_readPart wsX7_readDebt := goodIn_r _ [42, 2, 21, 1, 43, 6, 25, 26, 27, 10, 28, 17, 18, 19, 20, 22, 23, 24, 44, 45, 46, 47, 48, 49, 50, 51, 52, 53, 54, 55, 56, 57, 58, 59, 60, 61, 62, 63, 64, 65, 66, 67, 68, 69, 70, 71, 72, 73, 74, 75, 76, 77] (by decide +kernel) (by decide +kernel)
set_option maxRecDepth 20000 in
theorem gX7_readPart_X7_readDebt : GoodIn wsX7_readPart (wsV RX7 123 RX7 yX7_readDebt wsX7_readDebt) := goodIn_app (goodIn_of _ (by decide +kernel)) ggX7_readPart_X7_readDebt
theorem dX7_readPart_0 : decode cX7_readPart 0 = .ok (.aload_n 0, 1) := by decide +kernel
theorem dX7_readPart_1 : decode cX7_readPart 1 = .ok (.getfield 7, 3) := by decide +kernel
theorem dX7_readPart_4 : decode cX7_readPart 4 = .ok (.aload_n 0, 1) := by decide +kernel
theorem dX7_readPart_5 : decode cX7_readPart 5 = .ok (.getfield 89, 3) := by decide +kernel
theorem dX7_readPart_8 : decode cX7_readPart 8 = .ok (.iaload, 1) := by decide +kernel
theorem dX7_readPart_9 : decode cX7_readPart 9 = .ok (.istore_n 1, 1) := by decide +kernel
theorem dX7_readPart_10 : decode cX7_readPart 10 = .ok (.aload_n 0, 1) := by decide +kernel
theorem dX7_readPart_11 : decode cX7_readPart 11 = .ok (.dup, 1) := by decide +kernel
theorem dX7_readPart_12 : decode cX7_readPart 12 = .ok (.getfield 89, 3) := by decide +kernel
theorem dX7_readPart_15 : decode cX7_readPart 15 = .ok (.iconst 1, 1) := by decide +kernel
theorem dX7_readPart_16 : decode cX7_readPart 16 = .ok (.iadd, 1) := by decide +kernel
theorem dX7_readPart_17 : decode cX7_readPart 17 = .ok (.putfield 89, 3) := by decide +kernel
theorem dX7_readPart_20 : decode cX7_readPart 20 = .ok (.iload_n 1, 1) := by decide +kernel
theorem dX7_readPart_21 : decode cX7_readPart 21 = .ok (.bipush 67, 2) := by decide +kernel
theorem dX7_readPart_23 : decode cX7_readPart 23 = .ok (.if_icmp .ne 16, 3) := by decide +kernel
theorem dX7_readPart_26 : decode cX7_readPart 26 = .ok (.aload_n 0, 1) := by decide +kernel
theorem dX7_readPart_27 : decode cX7_readPart 27 = .ok (.getfield 96, 3) := by decide +kernel
theorem dX7_readPart_30 : decode cX7_readPart 30 = .ok (.iconst 5, 1) := by decide +kernel
theorem dX7_readPart_31 : decode cX7_readPart 31 = .ok (.if_icmp .ge 8, 3) := by decide +kernel
theorem dX7_readPart_34 : decode cX7_readPart 34 = .ok (.aload_n 0, 1) := by decide +kernel
theorem dX7_readPart_35 : decode cX7_readPart 35 = .ok (.invokevirtual 116, 3) := by decide +kernel
theorem dX7_readPart_38 : decode cX7_readPart 38 = .ok (.ireturn, 1) := by decide +kernel
theorem dX7_readPart_39 : decode cX7_readPart 39 = .ok (.iload_n 1, 1) := by decide +kernel
theorem dX7_readPart_40 : decode cX7_readPart 40 = .ok (.bipush 66, 2) := by decide +kernel
theorem dX7_readPart_42 : decode cX7_readPart 42 = .ok (.if_icmp .ne 16, 3) := by decide +kernel
theorem dX7_readPart_45 : decode cX7_readPart 45 = .ok (.aload_n 0, 1) := by decide +kernel
theorem dX7_readPart_46 : decode cX7_readPart 46 = .ok (.getfield 107, 3) := by decide +kernel
theorem dX7_readPart_49 : decode cX7_readPart 49 = .ok (.iconst 3, 1) := by decide +kernel
theorem dX7_readPart_50 : decode cX7_readPart 50 = .ok (.if_icmp .ge 8, 3) := by decide +kernel
theorem dX7_readPart_53 : decode cX7_readPart 53 = .ok (.aload_n 0, 1) := by decide +kernel
theorem dX7_readPart_54 : decode cX7_readPart 54 = .ok (.invokevirtual 119, 3) := by decide +kernel
theorem dX7_readPart_57 : decode cX7_readPart 57 = .ok (.ireturn, 1) := by decide +kernel
theorem dX7_readPart_58 : decode cX7_readPart 58 = .ok (.iload_n 1, 1) := by decide +kernel
theorem dX7_readPart_59 : decode cX7_readPart 59 = .ok (.bipush 84, 2) := by decide +kernel
theorem dX7_readPart_61 : decode cX7_readPart 61 = .ok (.if_icmp .ne 16, 3) := by decide +kernel
theorem dX7_readPart_64 : decode cX7_readPart 64 = .ok (.aload_n 0, 1) := by decide +kernel
theorem dX7_readPart_65 : decode cX7_readPart 65 = .ok (.getfield 110, 3) := by decide +kernel
theorem dX7_readPart_68 : decode cX7_readPart 68 = .ok (.iconst 3, 1) := by decide +kernel
theorem dX7_readPart_69 : decode cX7_readPart 69 = .ok (.if_icmp .ge 8, 3) := by decide +kernel
theorem dX7_readPart_72 : decode cX7_readPart 72 = .ok (.aload_n 0, 1) := by decide +kernel
theorem dX7_readPart_73 : decode cX7_readPart 73 = .ok (.invokevirtual 121, 3) := by decide +kernel
theorem dX7_readPart_76 : decode cX7_readPart 76 = .ok (.ireturn, 1) := by decide +kernel
theorem dX7_readPart_77 : decode cX7_readPart 77 = .ok (.iload_n 1, 1) := by decide +kernel
theorem dX7_readPart_78 : decode cX7_readPart 78 = .ok (.bipush 79, 2) := by decide +kernel
theorem dX7_readPart_80 : decode cX7_readPart 80 = .ok (.if_icmp .ne 17, 3) := by decide +kernel
theorem dX7_readPart_83 : decode cX7_readPart 83 = .ok (.aload_n 0, 1) := by decide +kernel
theorem dX7_readPart_84 : decode cX7_readPart 84 = .ok (.getfield 113, 3) := by decide +kernel
theorem dX7_readPart_87 : decode cX7_readPart 87 = .ok (.bipush 6, 2) := by decide +kernel
theorem dX7_readPart_89 : decode cX7_readPart 89 = .ok (.if_icmp .ge 8, 3) := by decide +kernel
theorem dX7_readPart_92 : decode cX7_readPart 92 = .ok (.aload_n 0, 1) := by decide +kernel
theorem dX7_readPart_93 : decode cX7_readPart 93 = .ok (.invokevirtual 123, 3) := by decide +kernel
theorem dX7_readPart_96 : decode cX7_readPart 96 = .ok (.ireturn, 1) := by decide +kernel
theorem dX7_readPart_97 : decode cX7_readPart 97 = .ok (.aload_n 0, 1) := by decide +kernel
theorem dX7_readPart_98 : decode cX7_readPart 98 = .ok (.dup, 1) := by decide +kernel
theorem dX7_readPart_99 : decode cX7_readPart 99 = .ok (.getfield 89, 3) := by decide +kernel
theorem dX7_readPart_102 : decode cX7_readPart 102 = .ok (.iconst 1, 1) := by decide +kernel
theorem dX7_readPart_103 : decode cX7_readPart 103 = .ok (.isub, 1) := by decide +kernel
theorem dX7_readPart_104 : decode cX7_readPart 104 = .ok (.putfield 89, 3) := by decide +kernel
theorem dX7_readPart_107 : decode cX7_readPart 107 = .ok (.iconst 0, 1) := by decide +kernel
theorem dX7_readPart_108 : decode cX7_readPart 108 = .ok (.ireturn, 1) := by decide +kernel
set_option maxRecDepth 20000 in
theorem ggX7_readCase_X7_readPart : GoodIn wsX7_readCase wsX7_readPart := goodIn_r _ [12, 7, 1, 2, 3, 4, 5, 13, 14, 15, 11, 16, 17, 18, 19, 20, 21, 22, 23, 24, 25, 6, 26, 27, 28, 29, 30, 31, 32, 33, 34, 35, 36, 37, 38, 39, 40, 41, 42, 43, 44, 45, 46, 47, 48, 49, 50, 51, 52, 53, 54, 55, 56, 57, 58, 59, 60, 61, 62, 63, 64, 65, 66, 67, 68, 69, 70, 71, 72, 73, 74, 75, 76, 77, 78, 79, 80, 81] (by decide +kernel) (by decide +kernel)
set_option maxRecDepth 20000 in
theorem gX7_readCase_X7_readPart : GoodIn wsX7_readCase (wsV RX7 125 RX7 yX7_readPart wsX7_readPart) := goodIn_app (goodIn_of _ (by decide +kernel)) ggX7_readCase_X7_readPart
theorem dX7_readCase_0 : decode cX7_readCase 0 = .ok (.aload_n 0, 1) := by decide +kernel
theorem dX7_readCase_1 : decode cX7_readCase 1 = .ok (.iconst 0, 1) := by decide +kernel
theorem dX7_readCase_2 : decode cX7_readCase 2 = .ok (.putfield 89, 3) := by decide +kernel
theorem dX7_readCase_5 : decode cX7_readCase 5 = .ok (.aload_n 0, 1) := by decide +kernel
theorem dX7_readCase_6 : decode cX7_readCase 6 = .ok (.iconst 0, 1) := by decide +kernel
theorem dX7_readCase_7 : decode cX7_readCase 7 = .ok (.putfield 96, 3) := by decide +kernel
theorem dX7_readCase_10 : decode cX7_readCase 10 = .ok (.aload_n 0, 1) := by decide +kernel
theorem dX7_readCase_11 : decode cX7_readCase 11 = .ok (.iconst 0, 1) := by decide +kernel
theorem dX7_readCase_12 : decode cX7_readCase 12 = .ok (.putfield 107, 3) := by decide +kernel
theorem dX7_readCase_15 : decode cX7_readCase 15 = .ok (.aload_n 0, 1) := by decide +kernel
theorem dX7_readCase_16 : decode cX7_readCase 16 = .ok (.iconst 0, 1) := by decide +kernel
theorem dX7_readCase_17 : decode cX7_readCase 17 = .ok (.putfield 110, 3) := by decide +kernel
theorem dX7_readCase_20 : decode cX7_readCase 20 = .ok (.aload_n 0, 1) := by decide +kernel
theorem dX7_readCase_21 : decode cX7_readCase 21 = .ok (.iconst 0, 1) := by decide +kernel
theorem dX7_readCase_22 : decode cX7_readCase 22 = .ok (.putfield 113, 3) := by decide +kernel
theorem dX7_readCase_25 : decode cX7_readCase 25 = .ok (.aload_n 0, 1) := by decide +kernel
theorem dX7_readCase_26 : decode cX7_readCase 26 = .ok (.getfield 86, 3) := by decide +kernel
theorem dX7_readCase_29 : decode cX7_readCase 29 = .ok (.ifCond .eq 14, 3) := by decide +kernel
theorem dX7_readCase_32 : decode cX7_readCase 32 = .ok (.aload_n 0, 1) := by decide +kernel
theorem dX7_readCase_33 : decode cX7_readCase 33 = .ok (.getfield 7, 3) := by decide +kernel
theorem dX7_readCase_36 : decode cX7_readCase 36 = .ok (.iconst 0, 1) := by decide +kernel
theorem dX7_readCase_37 : decode cX7_readCase 37 = .ok (.iaload, 1) := by decide +kernel
theorem dX7_readCase_38 : decode cX7_readCase 38 = .ok (.bipush 77, 2) := by decide +kernel
theorem dX7_readCase_40 : decode cX7_readCase 40 = .ok (.if_icmp .eq 5, 3) := by decide +kernel
theorem dX7_readCase_43 : decode cX7_readCase 43 = .ok (.iconst 0, 1) := by decide +kernel
theorem dX7_readCase_44 : decode cX7_readCase 44 = .ok (.ireturn, 1) := by decide +kernel
theorem dX7_readCase_45 : decode cX7_readCase 45 = .ok (.aload_n 0, 1) := by decide +kernel
theorem dX7_readCase_46 : decode cX7_readCase 46 = .ok (.iconst 1, 1) := by decide +kernel
theorem dX7_readCase_47 : decode cX7_readCase 47 = .ok (.putfield 89, 3) := by decide +kernel
theorem dX7_readCase_50 : decode cX7_readCase 50 = .ok (.aload_n 0, 1) := by decide +kernel
theorem dX7_readCase_51 : decode cX7_readCase 51 = .ok (.getfield 89, 3) := by decide +kernel
theorem dX7_readCase_54 : decode cX7_readCase 54 = .ok (.aload_n 0, 1) := by decide +kernel
theorem dX7_readCase_55 : decode cX7_readCase 55 = .ok (.getfield 86, 3) := by decide +kernel
theorem dX7_readCase_58 : decode cX7_readCase 58 = .ok (.if_icmp .ge 15, 3) := by decide +kernel
theorem dX7_readCase_61 : decode cX7_readCase 61 = .ok (.aload_n 0, 1) := by decide +kernel
theorem dX7_readCase_62 : decode cX7_readCase 62 = .ok (.invokevirtual 125, 3) := by decide +kernel
theorem dX7_readCase_65 : decode cX7_readCase 65 = .ok (.ifCond .ne (-15), 3) := by decide +kernel
theorem dX7_readCase_68 : decode cX7_readCase 68 = .ok (.aload_n 0, 1) := by decide +kernel
theorem dX7_readCase_69 : decode cX7_readCase 69 = .ok (.getfield 89, 3) := by decide +kernel
theorem dX7_readCase_72 : decode cX7_readCase 72 = .ok (.ireturn, 1) := by decide +kernel
theorem dX7_readCase_73 : decode cX7_readCase 73 = .ok (.bipush (-9), 2) := by decide +kernel
theorem dX7_readCase_75 : decode cX7_readCase 75 = .ok (.ireturn, 1) := by decide +kernel
set_option maxRecDepth 20000 in
theorem ggX7_fault_X7_readCase : GoodIn wsX7_fault wsX7_readCase := goodIn_r _ [6, 7, 8, 9, 10, 11, 12, 13, 14, 15, 16, 5, 17, 18, 19, 20, 21, 22, 23, 24, 25, 26, 27, 28, 29, 30, 31, 32, 33, 34, 35, 36, 37, 38, 39, 40, 41, 42, 43, 44, 45, 46, 47, 48, 49, 50, 51, 52, 53, 54, 55, 56, 57, 58, 59, 60, 61, 62, 63, 64, 65, 66, 67, 68, 69, 70, 71, 72, 73, 74, 75, 76, 77, 78, 79, 80, 81, 82, 83, 84, 85, 86] (by decide +kernel) (by decide +kernel)
set_option maxRecDepth 20000 in
theorem gX7_fault_X7_readCase : GoodIn wsX7_fault (wsV RX7 128 RX7 yX7_readCase wsX7_readCase) := goodIn_app (goodIn_of _ (by decide +kernel)) ggX7_fault_X7_readCase
theorem dX7_fault_0 : decode cX7_fault 0 = .ok (.aload_n 0, 1) := by decide +kernel
theorem dX7_fault_1 : decode cX7_fault 1 = .ok (.iconst 0, 1) := by decide +kernel
theorem dX7_fault_2 : decode cX7_fault 2 = .ok (.putfield 71, 3) := by decide +kernel
theorem dX7_fault_5 : decode cX7_fault 5 = .ok (.aload_n 0, 1) := by decide +kernel
theorem dX7_fault_6 : decode cX7_fault 6 = .ok (.invokevirtual 128, 3) := by decide +kernel
theorem dX7_fault_9 : decode cX7_fault 9 = .ok (.ireturn, 1) := by decide +kernel
set_option maxRecDepth 20000 in
theorem ggX7_open_X7_readCase : GoodIn wsX7_open wsX7_readCase := goodIn_r _ [25, 26, 2, 4, 6, 8, 27, 28, 29, 30, 31, 24, 32, 33, 34, 35, 36, 11, 37, 38, 39, 40, 41, 42, 43, 44, 45, 46, 47, 48, 49, 50, 51, 52, 53, 54, 55, 13, 56, 57, 58, 59, 15, 60, 61, 62, 63, 17, 64, 65, 66, 67, 68, 69, 70, 71, 72, 73, 74, 75, 76, 77, 78, 79, 80, 81, 82, 83, 84, 85, 86, 87, 88, 89, 90, 91, 92, 93, 94, 95, 96, 97] (by decide +kernel) (by decide +kernel)
set_option maxRecDepth 20000 in
theorem gX7_open_X7_readCase : GoodIn wsX7_open (wsV RX7 128 RX7 yX7_readCase wsX7_readCase) := goodIn_app (goodIn_of _ (by decide +kernel)) ggX7_open_X7_readCase
theorem dX7_open_0 : decode cX7_open 0 = .ok (.aload_n 0, 1) := by decide +kernel
theorem dX7_open_1 : decode cX7_open 1 = .ok (.iconst 0, 1) := by decide +kernel
theorem dX7_open_2 : decode cX7_open 2 = .ok (.putfield 71, 3) := by decide +kernel
theorem dX7_open_5 : decode cX7_open 5 = .ok (.aload_n 0, 1) := by decide +kernel
theorem dX7_open_6 : decode cX7_open 6 = .ok (.invokevirtual 128, 3) := by decide +kernel
theorem dX7_open_9 : decode cX7_open 9 = .ok (.bipush (-9), 2) := by decide +kernel
theorem dX7_open_11 : decode cX7_open 11 = .ok (.if_icmp .eq 6, 3) := by decide +kernel
theorem dX7_open_14 : decode cX7_open 14 = .ok (.bipush (-3), 2) := by decide +kernel
theorem dX7_open_16 : decode cX7_open 16 = .ok (.ireturn, 1) := by decide +kernel
theorem dX7_open_17 : decode cX7_open 17 = .ok (.aload_n 0, 1) := by decide +kernel
theorem dX7_open_18 : decode cX7_open 18 = .ok (.aload_n 0, 1) := by decide +kernel
theorem dX7_open_19 : decode cX7_open 19 = .ok (.getfield 96, 3) := by decide +kernel
theorem dX7_open_22 : decode cX7_open 22 = .ok (.putfield 75, 3) := by decide +kernel
theorem dX7_open_25 : decode cX7_open 25 = .ok (.aload_n 0, 1) := by decide +kernel
theorem dX7_open_26 : decode cX7_open 26 = .ok (.aload_n 0, 1) := by decide +kernel
theorem dX7_open_27 : decode cX7_open 27 = .ok (.getfield 107, 3) := by decide +kernel
theorem dX7_open_30 : decode cX7_open 30 = .ok (.putfield 131, 3) := by decide +kernel
theorem dX7_open_33 : decode cX7_open 33 = .ok (.aload_n 0, 1) := by decide +kernel
theorem dX7_open_34 : decode cX7_open 34 = .ok (.aload_n 0, 1) := by decide +kernel
theorem dX7_open_35 : decode cX7_open 35 = .ok (.getfield 110, 3) := by decide +kernel
theorem dX7_open_38 : decode cX7_open 38 = .ok (.putfield 134, 3) := by decide +kernel
theorem dX7_open_41 : decode cX7_open 41 = .ok (.aload_n 0, 1) := by decide +kernel
theorem dX7_open_42 : decode cX7_open 42 = .ok (.aload_n 0, 1) := by decide +kernel
theorem dX7_open_43 : decode cX7_open 43 = .ok (.getfield 113, 3) := by decide +kernel
theorem dX7_open_46 : decode cX7_open 46 = .ok (.putfield 137, 3) := by decide +kernel
theorem dX7_open_49 : decode cX7_open 49 = .ok (.iconst 0, 1) := by decide +kernel
theorem dX7_open_50 : decode cX7_open 50 = .ok (.istore_n 1, 1) := by decide +kernel
theorem dX7_open_51 : decode cX7_open 51 = .ok (.iload_n 1, 1) := by decide +kernel
theorem dX7_open_52 : decode cX7_open 52 = .ok (.bipush 25, 2) := by decide +kernel
theorem dX7_open_54 : decode cX7_open 54 = .ok (.if_icmp .ge 21, 3) := by decide +kernel
theorem dX7_open_57 : decode cX7_open 57 = .ok (.aload_n 0, 1) := by decide +kernel
theorem dX7_open_58 : decode cX7_open 58 = .ok (.getfield 13, 3) := by decide +kernel
theorem dX7_open_61 : decode cX7_open 61 = .ok (.iload_n 1, 1) := by decide +kernel
theorem dX7_open_62 : decode cX7_open 62 = .ok (.aload_n 0, 1) := by decide +kernel
theorem dX7_open_63 : decode cX7_open 63 = .ok (.getfield 25, 3) := by decide +kernel
theorem dX7_open_66 : decode cX7_open 66 = .ok (.iload_n 1, 1) := by decide +kernel
theorem dX7_open_67 : decode cX7_open 67 = .ok (.iaload, 1) := by decide +kernel
theorem dX7_open_68 : decode cX7_open 68 = .ok (.iastore, 1) := by decide +kernel
theorem dX7_open_69 : decode cX7_open 69 = .ok (.iinc 1 1, 3) := by decide +kernel
theorem dX7_open_72 : decode cX7_open 72 = .ok (.goto (-21), 3) := by decide +kernel
theorem dX7_open_75 : decode cX7_open 75 = .ok (.iconst 0, 1) := by decide +kernel
theorem dX7_open_76 : decode cX7_open 76 = .ok (.istore_n 1, 1) := by decide +kernel
theorem dX7_open_77 : decode cX7_open 77 = .ok (.iload_n 1, 1) := by decide +kernel
theorem dX7_open_78 : decode cX7_open 78 = .ok (.bipush 6, 2) := by decide +kernel
theorem dX7_open_80 : decode cX7_open 80 = .ok (.if_icmp .ge 33, 3) := by decide +kernel
theorem dX7_open_83 : decode cX7_open 83 = .ok (.aload_n 0, 1) := by decide +kernel
theorem dX7_open_84 : decode cX7_open 84 = .ok (.getfield 16, 3) := by decide +kernel
theorem dX7_open_87 : decode cX7_open 87 = .ok (.iload_n 1, 1) := by decide +kernel
theorem dX7_open_88 : decode cX7_open 88 = .ok (.aload_n 0, 1) := by decide +kernel
theorem dX7_open_89 : decode cX7_open 89 = .ok (.getfield 28, 3) := by decide +kernel
theorem dX7_open_92 : decode cX7_open 92 = .ok (.iload_n 1, 1) := by decide +kernel
theorem dX7_open_93 : decode cX7_open 93 = .ok (.iaload, 1) := by decide +kernel
theorem dX7_open_94 : decode cX7_open 94 = .ok (.iastore, 1) := by decide +kernel
theorem dX7_open_95 : decode cX7_open 95 = .ok (.aload_n 0, 1) := by decide +kernel
theorem dX7_open_96 : decode cX7_open 96 = .ok (.getfield 19, 3) := by decide +kernel
theorem dX7_open_99 : decode cX7_open 99 = .ok (.iload_n 1, 1) := by decide +kernel
theorem dX7_open_100 : decode cX7_open 100 = .ok (.aload_n 0, 1) := by decide +kernel
theorem dX7_open_101 : decode cX7_open 101 = .ok (.getfield 31, 3) := by decide +kernel
theorem dX7_open_104 : decode cX7_open 104 = .ok (.iload_n 1, 1) := by decide +kernel
theorem dX7_open_105 : decode cX7_open 105 = .ok (.iaload, 1) := by decide +kernel
theorem dX7_open_106 : decode cX7_open 106 = .ok (.iastore, 1) := by decide +kernel
theorem dX7_open_107 : decode cX7_open 107 = .ok (.iinc 1 1, 3) := by decide +kernel
theorem dX7_open_110 : decode cX7_open 110 = .ok (.goto (-33), 3) := by decide +kernel
theorem dX7_open_113 : decode cX7_open 113 = .ok (.iconst 0, 1) := by decide +kernel
theorem dX7_open_114 : decode cX7_open 114 = .ok (.istore_n 1, 1) := by decide +kernel
theorem dX7_open_115 : decode cX7_open 115 = .ok (.iload_n 1, 1) := by decide +kernel
theorem dX7_open_116 : decode cX7_open 116 = .ok (.bipush 18, 2) := by decide +kernel
theorem dX7_open_118 : decode cX7_open 118 = .ok (.if_icmp .ge 21, 3) := by decide +kernel
theorem dX7_open_121 : decode cX7_open 121 = .ok (.aload_n 0, 1) := by decide +kernel
theorem dX7_open_122 : decode cX7_open 122 = .ok (.getfield 22, 3) := by decide +kernel
theorem dX7_open_125 : decode cX7_open 125 = .ok (.iload_n 1, 1) := by decide +kernel
theorem dX7_open_126 : decode cX7_open 126 = .ok (.aload_n 0, 1) := by decide +kernel
theorem dX7_open_127 : decode cX7_open 127 = .ok (.getfield 34, 3) := by decide +kernel
theorem dX7_open_130 : decode cX7_open 130 = .ok (.iload_n 1, 1) := by decide +kernel
theorem dX7_open_131 : decode cX7_open 131 = .ok (.iaload, 1) := by decide +kernel
theorem dX7_open_132 : decode cX7_open 132 = .ok (.iastore, 1) := by decide +kernel
theorem dX7_open_133 : decode cX7_open 133 = .ok (.iinc 1 1, 3) := by decide +kernel
theorem dX7_open_136 : decode cX7_open 136 = .ok (.goto (-21), 3) := by decide +kernel
theorem dX7_open_139 : decode cX7_open 139 = .ok (.aload_n 0, 1) := by decide +kernel
theorem dX7_open_140 : decode cX7_open 140 = .ok (.getfield 37, 3) := by decide +kernel
theorem dX7_open_143 : decode cX7_open 143 = .ok (.iconst 0, 1) := by decide +kernel
theorem dX7_open_144 : decode cX7_open 144 = .ok (.bipush 13, 2) := by decide +kernel
theorem dX7_open_146 : decode cX7_open 146 = .ok (.iastore, 1) := by decide +kernel
theorem dX7_open_147 : decode cX7_open 147 = .ok (.aload_n 0, 1) := by decide +kernel
theorem dX7_open_148 : decode cX7_open 148 = .ok (.getfield 37, 3) := by decide +kernel
theorem dX7_open_151 : decode cX7_open 151 = .ok (.iconst 1, 1) := by decide +kernel
theorem dX7_open_152 : decode cX7_open 152 = .ok (.iconst 0, 1) := by decide +kernel
theorem dX7_open_153 : decode cX7_open 153 = .ok (.iastore, 1) := by decide +kernel
theorem dX7_open_154 : decode cX7_open 154 = .ok (.iconst 0, 1) := by decide +kernel
theorem dX7_open_155 : decode cX7_open 155 = .ok (.istore_n 1, 1) := by decide +kernel
theorem dX7_open_156 : decode cX7_open 156 = .ok (.iload_n 1, 1) := by decide +kernel
theorem dX7_open_157 : decode cX7_open 157 = .ok (.iconst 5, 1) := by decide +kernel
theorem dX7_open_158 : decode cX7_open 158 = .ok (.if_icmp .ge 70, 3) := by decide +kernel
theorem dX7_open_161 : decode cX7_open 161 = .ok (.aload_n 0, 1) := by decide +kernel
theorem dX7_open_162 : decode cX7_open 162 = .ok (.getfield 37, 3) := by decide +kernel
theorem dX7_open_165 : decode cX7_open 165 = .ok (.iconst 2, 1) := by decide +kernel
theorem dX7_open_166 : decode cX7_open 166 = .ok (.iload_n 1, 1) := by decide +kernel
theorem dX7_open_167 : decode cX7_open 167 = .ok (.iadd, 1) := by decide +kernel
theorem dX7_open_168 : decode cX7_open 168 = .ok (.iload_n 1, 1) := by decide +kernel
theorem dX7_open_169 : decode cX7_open 169 = .ok (.aload_n 0, 1) := by decide +kernel
theorem dX7_open_170 : decode cX7_open 170 = .ok (.getfield 75, 3) := by decide +kernel
theorem dX7_open_173 : decode cX7_open 173 = .ok (.if_icmp .ge 16, 3) := by decide +kernel
theorem dX7_open_176 : decode cX7_open 176 = .ok (.aload_n 0, 1) := by decide +kernel
theorem dX7_open_177 : decode cX7_open 177 = .ok (.getfield 13, 3) := by decide +kernel
theorem dX7_open_180 : decode cX7_open 180 = .ok (.iconst 5, 1) := by decide +kernel
theorem dX7_open_181 : decode cX7_open 181 = .ok (.iload_n 1, 1) := by decide +kernel
theorem dX7_open_182 : decode cX7_open 182 = .ok (.imul, 1) := by decide +kernel
theorem dX7_open_183 : decode cX7_open 183 = .ok (.iconst 1, 1) := by decide +kernel
theorem dX7_open_184 : decode cX7_open 184 = .ok (.iadd, 1) := by decide +kernel
theorem dX7_open_185 : decode cX7_open 185 = .ok (.iaload, 1) := by decide +kernel
theorem dX7_open_186 : decode cX7_open 186 = .ok (.goto 4, 3) := by decide +kernel
theorem dX7_open_189 : decode cX7_open 189 = .ok (.iconst 0, 1) := by decide +kernel
theorem dX7_open_190 : decode cX7_open 190 = .ok (.iastore, 1) := by decide +kernel
theorem dX7_open_191 : decode cX7_open 191 = .ok (.aload_n 0, 1) := by decide +kernel
theorem dX7_open_192 : decode cX7_open 192 = .ok (.getfield 37, 3) := by decide +kernel
theorem dX7_open_195 : decode cX7_open 195 = .ok (.bipush 7, 2) := by decide +kernel
theorem dX7_open_197 : decode cX7_open 197 = .ok (.iload_n 1, 1) := by decide +kernel
theorem dX7_open_198 : decode cX7_open 198 = .ok (.iadd, 1) := by decide +kernel
theorem dX7_open_199 : decode cX7_open 199 = .ok (.iload_n 1, 1) := by decide +kernel
theorem dX7_open_200 : decode cX7_open 200 = .ok (.aload_n 0, 1) := by decide +kernel
theorem dX7_open_201 : decode cX7_open 201 = .ok (.getfield 75, 3) := by decide +kernel
theorem dX7_open_204 : decode cX7_open 204 = .ok (.if_icmp .ge 16, 3) := by decide +kernel
theorem dX7_open_207 : decode cX7_open 207 = .ok (.aload_n 0, 1) := by decide +kernel
theorem dX7_open_208 : decode cX7_open 208 = .ok (.getfield 13, 3) := by decide +kernel
theorem dX7_open_211 : decode cX7_open 211 = .ok (.iconst 5, 1) := by decide +kernel
theorem dX7_open_212 : decode cX7_open 212 = .ok (.iload_n 1, 1) := by decide +kernel
theorem dX7_open_213 : decode cX7_open 213 = .ok (.imul, 1) := by decide +kernel
theorem dX7_open_214 : decode cX7_open 214 = .ok (.iconst 2, 1) := by decide +kernel
theorem dX7_open_215 : decode cX7_open 215 = .ok (.iadd, 1) := by decide +kernel
theorem dX7_open_216 : decode cX7_open 216 = .ok (.iaload, 1) := by decide +kernel
theorem dX7_open_217 : decode cX7_open 217 = .ok (.goto 4, 3) := by decide +kernel
theorem dX7_open_220 : decode cX7_open 220 = .ok (.iconst 0, 1) := by decide +kernel
theorem dX7_open_221 : decode cX7_open 221 = .ok (.iastore, 1) := by decide +kernel
theorem dX7_open_222 : decode cX7_open 222 = .ok (.iinc 1 1, 3) := by decide +kernel
theorem dX7_open_225 : decode cX7_open 225 = .ok (.goto (-69), 3) := by decide +kernel
theorem dX7_open_228 : decode cX7_open 228 = .ok (.aload_n 0, 1) := by decide +kernel
theorem dX7_open_229 : decode cX7_open 229 = .ok (.iconst 0, 1) := by decide +kernel
theorem dX7_open_230 : decode cX7_open 230 = .ok (.putfield 140, 3) := by decide +kernel
theorem dX7_open_233 : decode cX7_open 233 = .ok (.aload_n 0, 1) := by decide +kernel
theorem dX7_open_234 : decode cX7_open 234 = .ok (.getfield 46, 3) := by decide +kernel
theorem dX7_open_237 : decode cX7_open 237 = .ok (.iconst 0, 1) := by decide +kernel
theorem dX7_open_238 : decode cX7_open 238 = .ok (.iconst 0, 1) := by decide +kernel
theorem dX7_open_239 : decode cX7_open 239 = .ok (.bastore, 1) := by decide +kernel
theorem dX7_open_240 : decode cX7_open 240 = .ok (.aload_n 0, 1) := by decide +kernel
theorem dX7_open_241 : decode cX7_open 241 = .ok (.getfield 46, 3) := by decide +kernel
theorem dX7_open_244 : decode cX7_open 244 = .ok (.iconst 1, 1) := by decide +kernel
theorem dX7_open_245 : decode cX7_open 245 = .ok (.iconst 0, 1) := by decide +kernel
theorem dX7_open_246 : decode cX7_open 246 = .ok (.bastore, 1) := by decide +kernel
theorem dX7_open_247 : decode cX7_open 247 = .ok (.bipush 10, 2) := by decide +kernel
theorem dX7_open_249 : decode cX7_open 249 = .ok (.aload_n 0, 1) := by decide +kernel
theorem dX7_open_250 : decode cX7_open 250 = .ok (.getfield 75, 3) := by decide +kernel
theorem dX7_open_253 : decode cX7_open 253 = .ok (.imul, 1) := by decide +kernel
theorem dX7_open_254 : decode cX7_open 254 = .ok (.aload_n 0, 1) := by decide +kernel
theorem dX7_open_255 : decode cX7_open 255 = .ok (.getfield 131, 3) := by decide +kernel
theorem dX7_open_258 : decode cX7_open 258 = .ok (.iadd, 1) := by decide +kernel
theorem dX7_open_259 : decode cX7_open 259 = .ok (.ireturn, 1) := by decide +kernel
theorem dX7_at_0 : decode cX7_at 0 = .ok (.iload_n 1, 1) := by decide +kernel
theorem dX7_at_1 : decode cX7_at 1 = .ok (.bipush 13, 2) := by decide +kernel
theorem dX7_at_3 : decode cX7_at 3 = .ok (.if_icmp .ge 14, 3) := by decide +kernel
theorem dX7_at_6 : decode cX7_at 6 = .ok (.iload_n 0, 1) := by decide +kernel
theorem dX7_at_7 : decode cX7_at 7 = .ok (.iload_n 1, 1) := by decide +kernel
theorem dX7_at_8 : decode cX7_at 8 = .ok (.if_icmp .lt 9, 3) := by decide +kernel
theorem dX7_at_11 : decode cX7_at 11 = .ok (.iload_n 0, 1) := by decide +kernel
theorem dX7_at_12 : decode cX7_at 12 = .ok (.iconst 1, 1) := by decide +kernel
theorem dX7_at_13 : decode cX7_at 13 = .ok (.iadd, 1) := by decide +kernel
theorem dX7_at_14 : decode cX7_at 14 = .ok (.goto 4, 3) := by decide +kernel
theorem dX7_at_17 : decode cX7_at 17 = .ok (.iload_n 0, 1) := by decide +kernel
theorem dX7_at_18 : decode cX7_at 18 = .ok (.ireturn, 1) := by decide +kernel
set_option maxRecDepth 20000 in
theorem ggX7_endOf_X7_at : GoodIn wsX7_endOf wsX7_at := goodIn_r _ [5] (by decide +kernel) (by decide +kernel)
set_option maxRecDepth 20000 in
theorem gX7_endOf_X7_at : GoodIn wsX7_endOf (va_wsS RX7 143 yX7_at wsX7_at) := goodIn_app (goodIn_of _ (by decide +kernel)) ggX7_endOf_X7_at
theorem dX7_endOf_0 : decode cX7_endOf 0 = .ok (.iload_n 3, 1) := by decide +kernel
theorem dX7_endOf_1 : decode cX7_endOf 1 = .ok (.ifCond .ne 12, 3) := by decide +kernel
theorem dX7_endOf_4 : decode cX7_endOf 4 = .ok (.iload 4, 2) := by decide +kernel
theorem dX7_endOf_6 : decode cX7_endOf 6 = .ok (.iload_n 2, 1) := by decide +kernel
theorem dX7_endOf_7 : decode cX7_endOf 7 = .ok (.invokestatic 143, 3) := by decide +kernel
theorem dX7_endOf_10 : decode cX7_endOf 10 = .ok (.goto 18, 3) := by decide +kernel
theorem dX7_endOf_13 : decode cX7_endOf 13 = .ok (.aload_n 0, 1) := by decide +kernel
theorem dX7_endOf_14 : decode cX7_endOf 14 = .ok (.getfield 13, 3) := by decide +kernel
theorem dX7_endOf_17 : decode cX7_endOf 17 = .ok (.iconst 5, 1) := by decide +kernel
theorem dX7_endOf_18 : decode cX7_endOf 18 = .ok (.iload_n 1, 1) := by decide +kernel
theorem dX7_endOf_19 : decode cX7_endOf 19 = .ok (.imul, 1) := by decide +kernel
theorem dX7_endOf_20 : decode cX7_endOf 20 = .ok (.iaload, 1) := by decide +kernel
theorem dX7_endOf_21 : decode cX7_endOf 21 = .ok (.iload_n 2, 1) := by decide +kernel
theorem dX7_endOf_22 : decode cX7_endOf 22 = .ok (.invokestatic 143, 3) := by decide +kernel
theorem dX7_endOf_25 : decode cX7_endOf 25 = .ok (.iload 4, 2) := by decide +kernel
theorem dX7_endOf_27 : decode cX7_endOf 27 = .ok (.iadd, 1) := by decide +kernel
theorem dX7_endOf_28 : decode cX7_endOf 28 = .ok (.ireturn, 1) := by decide +kernel
set_option maxRecDepth 20000 in
theorem ggX7_isBroken_X7_endOf : GoodIn wsX7_isBroken wsX7_endOf := goodIn_r _ [7, 2, 8, 9, 6, 10, 11, 12, 13, 14, 15, 16, 17, 18, 19, 20, 21, 22, 23, 24, 25, 26, 27, 28, 29, 30, 31, 32, 33, 34, 35, 36, 37, 38, 39, 40, 41, 42, 43, 44] (by decide +kernel) (by decide +kernel)
set_option maxRecDepth 20000 in
theorem gX7_isBroken_X7_endOf : GoodIn wsX7_isBroken (wsV RX7 146 RX7 yX7_endOf wsX7_endOf) := goodIn_app (goodIn_of _ (by decide +kernel)) ggX7_isBroken_X7_endOf
set_option maxRecDepth 20000 in
theorem ggX7_isBroken_X7_at : GoodIn wsX7_isBroken wsX7_at := goodIn_r _ [10] (by decide +kernel) (by decide +kernel)
set_option maxRecDepth 20000 in
theorem gX7_isBroken_X7_at : GoodIn wsX7_isBroken (va_wsS RX7 143 yX7_at wsX7_at) := goodIn_app (goodIn_of _ (by decide +kernel)) ggX7_isBroken_X7_at
theorem dX7_isBroken_0 : decode cX7_isBroken 0 = .ok (.aload_n 0, 1) := by decide +kernel
theorem dX7_isBroken_1 : decode cX7_isBroken 1 = .ok (.iload_n 1, 1) := by decide +kernel
theorem dX7_isBroken_2 : decode cX7_isBroken 2 = .ok (.iload_n 2, 1) := by decide +kernel
theorem dX7_isBroken_3 : decode cX7_isBroken 3 = .ok (.aload_n 0, 1) := by decide +kernel
theorem dX7_isBroken_4 : decode cX7_isBroken 4 = .ok (.getfield 37, 3) := by decide +kernel
theorem dX7_isBroken_7 : decode cX7_isBroken 7 = .ok (.iconst 2, 1) := by decide +kernel
theorem dX7_isBroken_8 : decode cX7_isBroken 8 = .ok (.iload_n 1, 1) := by decide +kernel
theorem dX7_isBroken_9 : decode cX7_isBroken 9 = .ok (.iadd, 1) := by decide +kernel
theorem dX7_isBroken_10 : decode cX7_isBroken 10 = .ok (.iaload, 1) := by decide +kernel
theorem dX7_isBroken_11 : decode cX7_isBroken 11 = .ok (.aload_n 0, 1) := by decide +kernel
theorem dX7_isBroken_12 : decode cX7_isBroken 12 = .ok (.getfield 37, 3) := by decide +kernel
theorem dX7_isBroken_15 : decode cX7_isBroken 15 = .ok (.bipush 7, 2) := by decide +kernel
theorem dX7_isBroken_17 : decode cX7_isBroken 17 = .ok (.iload_n 1, 1) := by decide +kernel
theorem dX7_isBroken_18 : decode cX7_isBroken 18 = .ok (.iadd, 1) := by decide +kernel
theorem dX7_isBroken_19 : decode cX7_isBroken 19 = .ok (.iaload, 1) := by decide +kernel
theorem dX7_isBroken_20 : decode cX7_isBroken 20 = .ok (.invokevirtual 146, 3) := by decide +kernel
theorem dX7_isBroken_23 : decode cX7_isBroken 23 = .ok (.istore_n 3, 1) := by decide +kernel
theorem dX7_isBroken_24 : decode cX7_isBroken 24 = .ok (.iload_n 3, 1) := by decide +kernel
theorem dX7_isBroken_25 : decode cX7_isBroken 25 = .ok (.aload_n 0, 1) := by decide +kernel
theorem dX7_isBroken_26 : decode cX7_isBroken 26 = .ok (.getfield 13, 3) := by decide +kernel
theorem dX7_isBroken_29 : decode cX7_isBroken 29 = .ok (.iconst 5, 1) := by decide +kernel
theorem dX7_isBroken_30 : decode cX7_isBroken 30 = .ok (.iload_n 1, 1) := by decide +kernel
theorem dX7_isBroken_31 : decode cX7_isBroken 31 = .ok (.imul, 1) := by decide +kernel
theorem dX7_isBroken_32 : decode cX7_isBroken 32 = .ok (.iconst 3, 1) := by decide +kernel
theorem dX7_isBroken_33 : decode cX7_isBroken 33 = .ok (.iadd, 1) := by decide +kernel
theorem dX7_isBroken_34 : decode cX7_isBroken 34 = .ok (.iaload, 1) := by decide +kernel
theorem dX7_isBroken_35 : decode cX7_isBroken 35 = .ok (.iload_n 2, 1) := by decide +kernel
theorem dX7_isBroken_36 : decode cX7_isBroken 36 = .ok (.invokestatic 143, 3) := by decide +kernel
theorem dX7_isBroken_39 : decode cX7_isBroken 39 = .ok (.if_icmp .gt 30, 3) := by decide +kernel
theorem dX7_isBroken_42 : decode cX7_isBroken 42 = .ok (.iload_n 3, 1) := by decide +kernel
theorem dX7_isBroken_43 : decode cX7_isBroken 43 = .ok (.aload_n 0, 1) := by decide +kernel
theorem dX7_isBroken_44 : decode cX7_isBroken 44 = .ok (.getfield 13, 3) := by decide +kernel
theorem dX7_isBroken_47 : decode cX7_isBroken 47 = .ok (.iconst 5, 1) := by decide +kernel
theorem dX7_isBroken_48 : decode cX7_isBroken 48 = .ok (.iload_n 1, 1) := by decide +kernel
theorem dX7_isBroken_49 : decode cX7_isBroken 49 = .ok (.imul, 1) := by decide +kernel
theorem dX7_isBroken_50 : decode cX7_isBroken 50 = .ok (.iaload, 1) := by decide +kernel
theorem dX7_isBroken_51 : decode cX7_isBroken 51 = .ok (.iload_n 2, 1) := by decide +kernel
theorem dX7_isBroken_52 : decode cX7_isBroken 52 = .ok (.invokestatic 143, 3) := by decide +kernel
theorem dX7_isBroken_55 : decode cX7_isBroken 55 = .ok (.isub, 1) := by decide +kernel
theorem dX7_isBroken_56 : decode cX7_isBroken 56 = .ok (.aload_n 0, 1) := by decide +kernel
theorem dX7_isBroken_57 : decode cX7_isBroken 57 = .ok (.getfield 13, 3) := by decide +kernel
theorem dX7_isBroken_60 : decode cX7_isBroken 60 = .ok (.iconst 5, 1) := by decide +kernel
theorem dX7_isBroken_61 : decode cX7_isBroken 61 = .ok (.iload_n 1, 1) := by decide +kernel
theorem dX7_isBroken_62 : decode cX7_isBroken 62 = .ok (.imul, 1) := by decide +kernel
theorem dX7_isBroken_63 : decode cX7_isBroken 63 = .ok (.iconst 4, 1) := by decide +kernel
theorem dX7_isBroken_64 : decode cX7_isBroken 64 = .ok (.iadd, 1) := by decide +kernel
theorem dX7_isBroken_65 : decode cX7_isBroken 65 = .ok (.iaload, 1) := by decide +kernel
theorem dX7_isBroken_66 : decode cX7_isBroken 66 = .ok (.if_icmp .ge 7, 3) := by decide +kernel
theorem dX7_isBroken_69 : decode cX7_isBroken 69 = .ok (.iconst 1, 1) := by decide +kernel
theorem dX7_isBroken_70 : decode cX7_isBroken 70 = .ok (.goto 4, 3) := by decide +kernel
theorem dX7_isBroken_73 : decode cX7_isBroken 73 = .ok (.iconst 0, 1) := by decide +kernel
theorem dX7_isBroken_74 : decode cX7_isBroken 74 = .ok (.ireturn, 1) := by decide +kernel
set_option maxRecDepth 20000 in
theorem ggX7_brokenBy_X7_has : GoodIn wsX7_brokenBy wsX7_has := goodIn_r _ [6] (by decide +kernel) (by decide +kernel)
set_option maxRecDepth 20000 in
theorem gX7_brokenBy_X7_has : GoodIn wsX7_brokenBy (va_wsS RX7 150 yX7_has wsX7_has) := goodIn_app (goodIn_of _ (by decide +kernel)) ggX7_brokenBy_X7_has
set_option maxRecDepth 20000 in
theorem ggX7_brokenBy_X7_isBroken : GoodIn wsX7_brokenBy wsX7_isBroken := goodIn_r _ [10, 2, 11, 12, 13, 14, 5, 15, 16, 17, 18, 19, 20, 21, 22, 23, 24, 25, 26, 27, 28, 29, 30, 31, 32, 33, 34, 35, 36, 37, 38, 39, 40, 41, 42, 43, 44, 45, 46, 47, 48, 49, 50, 51, 52] (by decide +kernel) (by decide +kernel)
set_option maxRecDepth 20000 in
theorem gX7_brokenBy_X7_isBroken : GoodIn wsX7_brokenBy (wsV RX7 154 RX7 yX7_isBroken wsX7_isBroken) := goodIn_app (goodIn_of _ (by decide +kernel)) ggX7_brokenBy_X7_isBroken
theorem dX7_brokenBy_0 : decode cX7_brokenBy 0 = .ok (.iconst 0, 1) := by decide +kernel
theorem dX7_brokenBy_1 : decode cX7_brokenBy 1 = .ok (.istore_n 2, 1) := by decide +kernel
theorem dX7_brokenBy_2 : decode cX7_brokenBy 2 = .ok (.iconst 0, 1) := by decide +kernel
theorem dX7_brokenBy_3 : decode cX7_brokenBy 3 = .ok (.istore_n 3, 1) := by decide +kernel
theorem dX7_brokenBy_4 : decode cX7_brokenBy 4 = .ok (.iload_n 3, 1) := by decide +kernel
theorem dX7_brokenBy_5 : decode cX7_brokenBy 5 = .ok (.aload_n 0, 1) := by decide +kernel
theorem dX7_brokenBy_6 : decode cX7_brokenBy 6 = .ok (.getfield 75, 3) := by decide +kernel
theorem dX7_brokenBy_9 : decode cX7_brokenBy 9 = .ok (.if_icmp .ge 41, 3) := by decide +kernel
theorem dX7_brokenBy_12 : decode cX7_brokenBy 12 = .ok (.iload_n 2, 1) := by decide +kernel
theorem dX7_brokenBy_13 : decode cX7_brokenBy 13 = .ok (.aload_n 0, 1) := by decide +kernel
theorem dX7_brokenBy_14 : decode cX7_brokenBy 14 = .ok (.getfield 37, 3) := by decide +kernel
theorem dX7_brokenBy_17 : decode cX7_brokenBy 17 = .ok (.iconst 1, 1) := by decide +kernel
theorem dX7_brokenBy_18 : decode cX7_brokenBy 18 = .ok (.iaload, 1) := by decide +kernel
theorem dX7_brokenBy_19 : decode cX7_brokenBy 19 = .ok (.iload_n 3, 1) := by decide +kernel
theorem dX7_brokenBy_20 : decode cX7_brokenBy 20 = .ok (.invokestatic 150, 3) := by decide +kernel
theorem dX7_brokenBy_23 : decode cX7_brokenBy 23 = .ok (.ifCond .ne 18, 3) := by decide +kernel
theorem dX7_brokenBy_26 : decode cX7_brokenBy 26 = .ok (.aload_n 0, 1) := by decide +kernel
theorem dX7_brokenBy_27 : decode cX7_brokenBy 27 = .ok (.iload_n 3, 1) := by decide +kernel
theorem dX7_brokenBy_28 : decode cX7_brokenBy 28 = .ok (.iload_n 1, 1) := by decide +kernel
theorem dX7_brokenBy_29 : decode cX7_brokenBy 29 = .ok (.invokevirtual 154, 3) := by decide +kernel
theorem dX7_brokenBy_32 : decode cX7_brokenBy 32 = .ok (.ifCond .eq 9, 3) := by decide +kernel
theorem dX7_brokenBy_35 : decode cX7_brokenBy 35 = .ok (.iconst 1, 1) := by decide +kernel
theorem dX7_brokenBy_36 : decode cX7_brokenBy 36 = .ok (.iload_n 3, 1) := by decide +kernel
theorem dX7_brokenBy_37 : decode cX7_brokenBy 37 = .ok (.ishl, 1) := by decide +kernel
theorem dX7_brokenBy_38 : decode cX7_brokenBy 38 = .ok (.goto 4, 3) := by decide +kernel
theorem dX7_brokenBy_41 : decode cX7_brokenBy 41 = .ok (.iconst 0, 1) := by decide +kernel
theorem dX7_brokenBy_42 : decode cX7_brokenBy 42 = .ok (.ior, 1) := by decide +kernel
theorem dX7_brokenBy_43 : decode cX7_brokenBy 43 = .ok (.istore_n 2, 1) := by decide +kernel
theorem dX7_brokenBy_44 : decode cX7_brokenBy 44 = .ok (.iinc 3 1, 3) := by decide +kernel
theorem dX7_brokenBy_47 : decode cX7_brokenBy 47 = .ok (.goto (-43), 3) := by decide +kernel
theorem dX7_brokenBy_50 : decode cX7_brokenBy 50 = .ok (.iload_n 2, 1) := by decide +kernel
theorem dX7_brokenBy_51 : decode cX7_brokenBy 51 = .ok (.ireturn, 1) := by decide +kernel
set_option maxRecDepth 20000 in
theorem ggX7_about_X7_brokenBy : GoodIn wsX7_about wsX7_brokenBy := goodIn_r _ [14, 2, 6, 15, 16, 13, 17, 18, 19, 20, 21, 22, 23, 24, 25, 26, 27, 28, 29, 30, 31, 32, 33, 34, 35, 36, 37, 38, 39, 40, 41, 42, 43, 44, 45, 46, 47, 48, 49, 50, 51, 52, 53, 54, 55, 56, 57, 58, 59, 60, 61, 62, 63] (by decide +kernel) (by decide +kernel)
set_option maxRecDepth 20000 in
theorem gX7_about_X7_brokenBy : GoodIn wsX7_about (wsV RX7 157 RX7 yX7_brokenBy wsX7_brokenBy) := goodIn_app (goodIn_of _ (by decide +kernel)) ggX7_about_X7_brokenBy
theorem dX7_about_0 : decode cX7_about 0 = .ok (.aload_n 0, 1) := by decide +kernel
theorem dX7_about_1 : decode cX7_about 1 = .ok (.iconst 0, 1) := by decide +kernel
theorem dX7_about_2 : decode cX7_about 2 = .ok (.putfield 71, 3) := by decide +kernel
theorem dX7_about_5 : decode cX7_about 5 = .ok (.iload_n 1, 1) := by decide +kernel
theorem dX7_about_6 : decode cX7_about 6 = .ok (.tableswitch 130 0 9 #[54, 59, 64, 69, 74, 97, 104, 115, 120, 125], 54) := by decide +kernel
theorem dX7_about_60 : decode cX7_about 60 = .ok (.aload_n 0, 1) := by decide +kernel
theorem dX7_about_61 : decode cX7_about 61 = .ok (.getfield 75, 3) := by decide +kernel
theorem dX7_about_64 : decode cX7_about 64 = .ok (.ireturn, 1) := by decide +kernel
theorem dX7_about_65 : decode cX7_about 65 = .ok (.aload_n 0, 1) := by decide +kernel
theorem dX7_about_66 : decode cX7_about 66 = .ok (.getfield 131, 3) := by decide +kernel
theorem dX7_about_69 : decode cX7_about 69 = .ok (.ireturn, 1) := by decide +kernel
theorem dX7_about_70 : decode cX7_about 70 = .ok (.aload_n 0, 1) := by decide +kernel
theorem dX7_about_71 : decode cX7_about 71 = .ok (.getfield 134, 3) := by decide +kernel
theorem dX7_about_74 : decode cX7_about 74 = .ok (.ireturn, 1) := by decide +kernel
theorem dX7_about_75 : decode cX7_about 75 = .ok (.aload_n 0, 1) := by decide +kernel
theorem dX7_about_76 : decode cX7_about 76 = .ok (.getfield 137, 3) := by decide +kernel
theorem dX7_about_79 : decode cX7_about 79 = .ok (.ireturn, 1) := by decide +kernel
theorem dX7_about_80 : decode cX7_about 80 = .ok (.aload_n 0, 1) := by decide +kernel
theorem dX7_about_81 : decode cX7_about 81 = .ok (.getfield 37, 3) := by decide +kernel
theorem dX7_about_84 : decode cX7_about 84 = .ok (.iconst 0, 1) := by decide +kernel
theorem dX7_about_85 : decode cX7_about 85 = .ok (.iaload, 1) := by decide +kernel
theorem dX7_about_86 : decode cX7_about 86 = .ok (.bipush 13, 2) := by decide +kernel
theorem dX7_about_88 : decode cX7_about 88 = .ok (.if_icmp .ne 8, 3) := by decide +kernel
theorem dX7_about_91 : decode cX7_about 91 = .ok (.bipush (-9), 2) := by decide +kernel
theorem dX7_about_93 : decode cX7_about 93 = .ok (.goto 9, 3) := by decide +kernel
theorem dX7_about_96 : decode cX7_about 96 = .ok (.aload_n 0, 1) := by decide +kernel
theorem dX7_about_97 : decode cX7_about 97 = .ok (.getfield 37, 3) := by decide +kernel
theorem dX7_about_100 : decode cX7_about 100 = .ok (.iconst 0, 1) := by decide +kernel
theorem dX7_about_101 : decode cX7_about 101 = .ok (.iaload, 1) := by decide +kernel
theorem dX7_about_102 : decode cX7_about 102 = .ok (.ireturn, 1) := by decide +kernel
theorem dX7_about_103 : decode cX7_about 103 = .ok (.aload_n 0, 1) := by decide +kernel
theorem dX7_about_104 : decode cX7_about 104 = .ok (.getfield 37, 3) := by decide +kernel
theorem dX7_about_107 : decode cX7_about 107 = .ok (.iconst 1, 1) := by decide +kernel
theorem dX7_about_108 : decode cX7_about 108 = .ok (.iaload, 1) := by decide +kernel
theorem dX7_about_109 : decode cX7_about 109 = .ok (.ireturn, 1) := by decide +kernel
theorem dX7_about_110 : decode cX7_about 110 = .ok (.aload_n 0, 1) := by decide +kernel
theorem dX7_about_111 : decode cX7_about 111 = .ok (.aload_n 0, 1) := by decide +kernel
theorem dX7_about_112 : decode cX7_about 112 = .ok (.getfield 37, 3) := by decide +kernel
theorem dX7_about_115 : decode cX7_about 115 = .ok (.iconst 0, 1) := by decide +kernel
theorem dX7_about_116 : decode cX7_about 116 = .ok (.iaload, 1) := by decide +kernel
theorem dX7_about_117 : decode cX7_about 117 = .ok (.invokevirtual 157, 3) := by decide +kernel
theorem dX7_about_120 : decode cX7_about 120 = .ok (.ireturn, 1) := by decide +kernel
theorem dX7_about_121 : decode cX7_about 121 = .ok (.aload_n 0, 1) := by decide +kernel
theorem dX7_about_122 : decode cX7_about 122 = .ok (.getfield 140, 3) := by decide +kernel
theorem dX7_about_125 : decode cX7_about 125 = .ok (.ireturn, 1) := by decide +kernel
theorem dX7_about_126 : decode cX7_about 126 = .ok (.aload_n 0, 1) := by decide +kernel
theorem dX7_about_127 : decode cX7_about 127 = .ok (.getfield 161, 3) := by decide +kernel
theorem dX7_about_130 : decode cX7_about 130 = .ok (.ireturn, 1) := by decide +kernel
theorem dX7_about_131 : decode cX7_about 131 = .ok (.aload_n 0, 1) := by decide +kernel
theorem dX7_about_132 : decode cX7_about 132 = .ok (.getfield 86, 3) := by decide +kernel
theorem dX7_about_135 : decode cX7_about 135 = .ok (.ireturn, 1) := by decide +kernel
theorem dX7_about_136 : decode cX7_about 136 = .ok (.bipush (-2), 2) := by decide +kernel
theorem dX7_about_138 : decode cX7_about 138 = .ok (.ireturn, 1) := by decide +kernel
set_option maxRecDepth 20000 in
theorem ggX7_contract_X7_noContract : GoodIn wsX7_contract wsX7_noContract := goodIn_r _ [8, 9, 10, 11, 7, 12, 20, 21, 22, 23, 24, 25, 26, 27, 28, 29, 30, 31, 32, 33, 34, 35, 36, 37, 38, 39, 40, 41, 42, 43, 44, 45, 46, 47, 48, 49, 50, 51, 52, 53] (by decide +kernel) (by decide +kernel)
set_option maxRecDepth 20000 in
theorem gX7_contract_X7_noContract : GoodIn wsX7_contract (wsV RX7 164 RX7 yX7_noContract wsX7_noContract) := goodIn_app (goodIn_of _ (by decide +kernel)) ggX7_contract_X7_noContract
set_option maxRecDepth 20000 in
theorem ggX7_contract_X7_endOf : GoodIn wsX7_contract wsX7_endOf := goodIn_r _ [16, 2, 17, 18, 7, 19, 20, 21, 22, 23, 24, 25, 26, 27, 28, 29, 30, 31, 32, 33, 34, 35, 36, 37, 38, 39, 40, 41, 42, 43, 44, 45, 46, 47, 48, 49, 50, 51, 52, 53] (by decide +kernel) (by decide +kernel)
set_option maxRecDepth 20000 in
theorem gX7_contract_X7_endOf : GoodIn wsX7_contract (wsV RX7 146 RX7 yX7_endOf wsX7_endOf) := goodIn_app (goodIn_of _ (by decide +kernel)) ggX7_contract_X7_endOf
theorem dX7_contract_0 : decode cX7_contract 0 = .ok (.aload_n 0, 1) := by decide +kernel
theorem dX7_contract_1 : decode cX7_contract 1 = .ok (.iconst 0, 1) := by decide +kernel
theorem dX7_contract_2 : decode cX7_contract 2 = .ok (.putfield 71, 3) := by decide +kernel
theorem dX7_contract_5 : decode cX7_contract 5 = .ok (.aload_n 0, 1) := by decide +kernel
theorem dX7_contract_6 : decode cX7_contract 6 = .ok (.iload_n 1, 1) := by decide +kernel
theorem dX7_contract_7 : decode cX7_contract 7 = .ok (.invokevirtual 164, 3) := by decide +kernel
theorem dX7_contract_10 : decode cX7_contract 10 = .ok (.ifCond .eq 5, 3) := by decide +kernel
theorem dX7_contract_13 : decode cX7_contract 13 = .ok (.iconst (-1), 1) := by decide +kernel
theorem dX7_contract_14 : decode cX7_contract 14 = .ok (.ireturn, 1) := by decide +kernel
theorem dX7_contract_15 : decode cX7_contract 15 = .ok (.iload_n 2, 1) := by decide +kernel
theorem dX7_contract_16 : decode cX7_contract 16 = .ok (.tableswitch 114 0 6 #[44, 55, 64, 44, 44, 74, 85], 44) := by decide +kernel
theorem dX7_contract_60 : decode cX7_contract 60 = .ok (.aload_n 0, 1) := by decide +kernel
theorem dX7_contract_61 : decode cX7_contract 61 = .ok (.getfield 13, 3) := by decide +kernel
theorem dX7_contract_64 : decode cX7_contract 64 = .ok (.iconst 5, 1) := by decide +kernel
theorem dX7_contract_65 : decode cX7_contract 65 = .ok (.iload_n 1, 1) := by decide +kernel
theorem dX7_contract_66 : decode cX7_contract 66 = .ok (.imul, 1) := by decide +kernel
theorem dX7_contract_67 : decode cX7_contract 67 = .ok (.iload_n 2, 1) := by decide +kernel
theorem dX7_contract_68 : decode cX7_contract 68 = .ok (.iadd, 1) := by decide +kernel
theorem dX7_contract_69 : decode cX7_contract 69 = .ok (.iaload, 1) := by decide +kernel
theorem dX7_contract_70 : decode cX7_contract 70 = .ok (.ireturn, 1) := by decide +kernel
theorem dX7_contract_71 : decode cX7_contract 71 = .ok (.aload_n 0, 1) := by decide +kernel
theorem dX7_contract_72 : decode cX7_contract 72 = .ok (.getfield 37, 3) := by decide +kernel
theorem dX7_contract_75 : decode cX7_contract 75 = .ok (.iconst 2, 1) := by decide +kernel
theorem dX7_contract_76 : decode cX7_contract 76 = .ok (.iload_n 1, 1) := by decide +kernel
theorem dX7_contract_77 : decode cX7_contract 77 = .ok (.iadd, 1) := by decide +kernel
theorem dX7_contract_78 : decode cX7_contract 78 = .ok (.iaload, 1) := by decide +kernel
theorem dX7_contract_79 : decode cX7_contract 79 = .ok (.ireturn, 1) := by decide +kernel
theorem dX7_contract_80 : decode cX7_contract 80 = .ok (.aload_n 0, 1) := by decide +kernel
theorem dX7_contract_81 : decode cX7_contract 81 = .ok (.getfield 37, 3) := by decide +kernel
theorem dX7_contract_84 : decode cX7_contract 84 = .ok (.bipush 7, 2) := by decide +kernel
theorem dX7_contract_86 : decode cX7_contract 86 = .ok (.iload_n 1, 1) := by decide +kernel
theorem dX7_contract_87 : decode cX7_contract 87 = .ok (.iadd, 1) := by decide +kernel
theorem dX7_contract_88 : decode cX7_contract 88 = .ok (.iaload, 1) := by decide +kernel
theorem dX7_contract_89 : decode cX7_contract 89 = .ok (.ireturn, 1) := by decide +kernel
theorem dX7_contract_90 : decode cX7_contract 90 = .ok (.aload_n 0, 1) := by decide +kernel
theorem dX7_contract_91 : decode cX7_contract 91 = .ok (.getfield 37, 3) := by decide +kernel
theorem dX7_contract_94 : decode cX7_contract 94 = .ok (.iconst 1, 1) := by decide +kernel
theorem dX7_contract_95 : decode cX7_contract 95 = .ok (.iaload, 1) := by decide +kernel
theorem dX7_contract_96 : decode cX7_contract 96 = .ok (.iload_n 1, 1) := by decide +kernel
theorem dX7_contract_97 : decode cX7_contract 97 = .ok (.ishr, 1) := by decide +kernel
theorem dX7_contract_98 : decode cX7_contract 98 = .ok (.iconst 1, 1) := by decide +kernel
theorem dX7_contract_99 : decode cX7_contract 99 = .ok (.iand, 1) := by decide +kernel
theorem dX7_contract_100 : decode cX7_contract 100 = .ok (.ireturn, 1) := by decide +kernel
theorem dX7_contract_101 : decode cX7_contract 101 = .ok (.aload_n 0, 1) := by decide +kernel
theorem dX7_contract_102 : decode cX7_contract 102 = .ok (.iload_n 1, 1) := by decide +kernel
theorem dX7_contract_103 : decode cX7_contract 103 = .ok (.aload_n 0, 1) := by decide +kernel
theorem dX7_contract_104 : decode cX7_contract 104 = .ok (.getfield 37, 3) := by decide +kernel
theorem dX7_contract_107 : decode cX7_contract 107 = .ok (.iconst 0, 1) := by decide +kernel
theorem dX7_contract_108 : decode cX7_contract 108 = .ok (.iaload, 1) := by decide +kernel
theorem dX7_contract_109 : decode cX7_contract 109 = .ok (.aload_n 0, 1) := by decide +kernel
theorem dX7_contract_110 : decode cX7_contract 110 = .ok (.getfield 37, 3) := by decide +kernel
theorem dX7_contract_113 : decode cX7_contract 113 = .ok (.iconst 2, 1) := by decide +kernel
theorem dX7_contract_114 : decode cX7_contract 114 = .ok (.iload_n 1, 1) := by decide +kernel
theorem dX7_contract_115 : decode cX7_contract 115 = .ok (.iadd, 1) := by decide +kernel
theorem dX7_contract_116 : decode cX7_contract 116 = .ok (.iaload, 1) := by decide +kernel
theorem dX7_contract_117 : decode cX7_contract 117 = .ok (.aload_n 0, 1) := by decide +kernel
theorem dX7_contract_118 : decode cX7_contract 118 = .ok (.getfield 37, 3) := by decide +kernel
theorem dX7_contract_121 : decode cX7_contract 121 = .ok (.bipush 7, 2) := by decide +kernel
theorem dX7_contract_123 : decode cX7_contract 123 = .ok (.iload_n 1, 1) := by decide +kernel
theorem dX7_contract_124 : decode cX7_contract 124 = .ok (.iadd, 1) := by decide +kernel
theorem dX7_contract_125 : decode cX7_contract 125 = .ok (.iaload, 1) := by decide +kernel
theorem dX7_contract_126 : decode cX7_contract 126 = .ok (.invokevirtual 146, 3) := by decide +kernel
theorem dX7_contract_129 : decode cX7_contract 129 = .ok (.ireturn, 1) := by decide +kernel
theorem dX7_contract_130 : decode cX7_contract 130 = .ok (.bipush (-2), 2) := by decide +kernel
theorem dX7_contract_132 : decode cX7_contract 132 = .ok (.ireturn, 1) := by decide +kernel
theorem dX7_note_0 : decode cX7_note 0 = .ok (.aload_n 0, 1) := by decide +kernel
theorem dX7_note_1 : decode cX7_note 1 = .ok (.getfield 140, 3) := by decide +kernel
theorem dX7_note_4 : decode cX7_note 4 = .ok (.bipush 14, 2) := by decide +kernel
theorem dX7_note_6 : decode cX7_note 6 = .ok (.if_icmp .ne 43, 3) := by decide +kernel
theorem dX7_note_9 : decode cX7_note 9 = .ok (.iconst 0, 1) := by decide +kernel
theorem dX7_note_10 : decode cX7_note 10 = .ok (.istore_n 1, 1) := by decide +kernel
theorem dX7_note_11 : decode cX7_note 11 = .ok (.iload_n 1, 1) := by decide +kernel
theorem dX7_note_12 : decode cX7_note 12 = .ok (.sipush 156, 3) := by decide +kernel
theorem dX7_note_15 : decode cX7_note 15 = .ok (.if_icmp .ge 24, 3) := by decide +kernel
theorem dX7_note_18 : decode cX7_note 18 = .ok (.aload_n 0, 1) := by decide +kernel
theorem dX7_note_19 : decode cX7_note 19 = .ok (.getfield 40, 3) := by decide +kernel
theorem dX7_note_22 : decode cX7_note 22 = .ok (.iload_n 1, 1) := by decide +kernel
theorem dX7_note_23 : decode cX7_note 23 = .ok (.aload_n 0, 1) := by decide +kernel
theorem dX7_note_24 : decode cX7_note 24 = .ok (.getfield 40, 3) := by decide +kernel
theorem dX7_note_27 : decode cX7_note 27 = .ok (.iload_n 1, 1) := by decide +kernel
theorem dX7_note_28 : decode cX7_note 28 = .ok (.bipush 12, 2) := by decide +kernel
theorem dX7_note_30 : decode cX7_note 30 = .ok (.iadd, 1) := by decide +kernel
theorem dX7_note_31 : decode cX7_note 31 = .ok (.iaload, 1) := by decide +kernel
theorem dX7_note_32 : decode cX7_note 32 = .ok (.iastore, 1) := by decide +kernel
theorem dX7_note_33 : decode cX7_note 33 = .ok (.iinc 1 1, 3) := by decide +kernel
theorem dX7_note_36 : decode cX7_note 36 = .ok (.goto (-25), 3) := by decide +kernel
theorem dX7_note_39 : decode cX7_note 39 = .ok (.aload_n 0, 1) := by decide +kernel
theorem dX7_note_40 : decode cX7_note 40 = .ok (.dup, 1) := by decide +kernel
theorem dX7_note_41 : decode cX7_note 41 = .ok (.getfield 140, 3) := by decide +kernel
theorem dX7_note_44 : decode cX7_note 44 = .ok (.iconst 1, 1) := by decide +kernel
theorem dX7_note_45 : decode cX7_note 45 = .ok (.isub, 1) := by decide +kernel
theorem dX7_note_46 : decode cX7_note 46 = .ok (.putfield 140, 3) := by decide +kernel
theorem dX7_note_49 : decode cX7_note 49 = .ok (.iconst 0, 1) := by decide +kernel
theorem dX7_note_50 : decode cX7_note 50 = .ok (.istore_n 1, 1) := by decide +kernel
theorem dX7_note_51 : decode cX7_note 51 = .ok (.iload_n 1, 1) := by decide +kernel
theorem dX7_note_52 : decode cX7_note 52 = .ok (.bipush 12, 2) := by decide +kernel
theorem dX7_note_54 : decode cX7_note 54 = .ok (.if_icmp .ge 29, 3) := by decide +kernel
theorem dX7_note_57 : decode cX7_note 57 = .ok (.aload_n 0, 1) := by decide +kernel
theorem dX7_note_58 : decode cX7_note 58 = .ok (.getfield 40, 3) := by decide +kernel
theorem dX7_note_61 : decode cX7_note 61 = .ok (.bipush 12, 2) := by decide +kernel
theorem dX7_note_63 : decode cX7_note 63 = .ok (.aload_n 0, 1) := by decide +kernel
theorem dX7_note_64 : decode cX7_note 64 = .ok (.getfield 140, 3) := by decide +kernel
theorem dX7_note_67 : decode cX7_note 67 = .ok (.imul, 1) := by decide +kernel
theorem dX7_note_68 : decode cX7_note 68 = .ok (.iload_n 1, 1) := by decide +kernel
theorem dX7_note_69 : decode cX7_note 69 = .ok (.iadd, 1) := by decide +kernel
theorem dX7_note_70 : decode cX7_note 70 = .ok (.aload_n 0, 1) := by decide +kernel
theorem dX7_note_71 : decode cX7_note 71 = .ok (.getfield 37, 3) := by decide +kernel
theorem dX7_note_74 : decode cX7_note 74 = .ok (.iload_n 1, 1) := by decide +kernel
theorem dX7_note_75 : decode cX7_note 75 = .ok (.iaload, 1) := by decide +kernel
theorem dX7_note_76 : decode cX7_note 76 = .ok (.iastore, 1) := by decide +kernel
theorem dX7_note_77 : decode cX7_note 77 = .ok (.iinc 1 1, 3) := by decide +kernel
theorem dX7_note_80 : decode cX7_note 80 = .ok (.goto (-29), 3) := by decide +kernel
theorem dX7_note_83 : decode cX7_note 83 = .ok (.aload_n 0, 1) := by decide +kernel
theorem dX7_note_84 : decode cX7_note 84 = .ok (.dup, 1) := by decide +kernel
theorem dX7_note_85 : decode cX7_note 85 = .ok (.getfield 140, 3) := by decide +kernel
theorem dX7_note_88 : decode cX7_note 88 = .ok (.iconst 1, 1) := by decide +kernel
theorem dX7_note_89 : decode cX7_note 89 = .ok (.iadd, 1) := by decide +kernel
theorem dX7_note_90 : decode cX7_note 90 = .ok (.putfield 140, 3) := by decide +kernel
theorem dX7_note_93 : decode cX7_note 93 = .ok (.return_, 1) := by decide +kernel
set_option maxRecDepth 20000 in
theorem ggX7_put_X7_noPlace : GoodIn wsX7_put wsX7_noPlace := goodIn_r _ [6, 7, 8, 9, 5, 10] (by decide +kernel) (by decide +kernel)
set_option maxRecDepth 20000 in
theorem gX7_put_X7_noPlace : GoodIn wsX7_put (va_wsS RX7 168 yX7_noPlace wsX7_noPlace) := goodIn_app (goodIn_of _ (by decide +kernel)) ggX7_put_X7_noPlace
set_option maxRecDepth 20000 in
theorem ggX7_put_X7_note : GoodIn wsX7_put wsX7_note := goodIn_r _ [14, 15, 16, 2, 17, 18, 19, 20, 21, 22, 23, 24, 25, 26, 27, 28, 29, 30, 31, 32, 33, 34, 35, 36, 37, 38, 39, 40, 41, 42, 43, 44, 45, 46, 47, 48, 49, 50] (by decide +kernel) (by decide +kernel)
set_option maxRecDepth 20000 in
theorem gX7_put_X7_note : GoodIn wsX7_put (wsV RX7 171 RX7 yX7_note wsX7_note) := goodIn_app (goodIn_of _ (by decide +kernel)) ggX7_put_X7_note
theorem dX7_put_0 : decode cX7_put 0 = .ok (.aload_n 0, 1) := by decide +kernel
theorem dX7_put_1 : decode cX7_put 1 = .ok (.iconst 0, 1) := by decide +kernel
theorem dX7_put_2 : decode cX7_put 2 = .ok (.putfield 71, 3) := by decide +kernel
theorem dX7_put_5 : decode cX7_put 5 = .ok (.iload_n 1, 1) := by decide +kernel
theorem dX7_put_6 : decode cX7_put 6 = .ok (.invokestatic 168, 3) := by decide +kernel
theorem dX7_put_9 : decode cX7_put 9 = .ok (.ifCond .eq 6, 3) := by decide +kernel
theorem dX7_put_12 : decode cX7_put 12 = .ok (.bipush (-2), 2) := by decide +kernel
theorem dX7_put_14 : decode cX7_put 14 = .ok (.ireturn, 1) := by decide +kernel
theorem dX7_put_15 : decode cX7_put 15 = .ok (.aload_n 0, 1) := by decide +kernel
theorem dX7_put_16 : decode cX7_put 16 = .ok (.getfield 37, 3) := by decide +kernel
theorem dX7_put_19 : decode cX7_put 19 = .ok (.iconst 0, 1) := by decide +kernel
theorem dX7_put_20 : decode cX7_put 20 = .ok (.iaload, 1) := by decide +kernel
theorem dX7_put_21 : decode cX7_put 21 = .ok (.istore_n 2, 1) := by decide +kernel
theorem dX7_put_22 : decode cX7_put 22 = .ok (.iload_n 2, 1) := by decide +kernel
theorem dX7_put_23 : decode cX7_put 23 = .ok (.iload_n 1, 1) := by decide +kernel
theorem dX7_put_24 : decode cX7_put 24 = .ok (.if_icmp .ne 6, 3) := by decide +kernel
theorem dX7_put_27 : decode cX7_put 27 = .ok (.bipush (-3), 2) := by decide +kernel
theorem dX7_put_29 : decode cX7_put 29 = .ok (.ireturn, 1) := by decide +kernel
theorem dX7_put_30 : decode cX7_put 30 = .ok (.aload_n 0, 1) := by decide +kernel
theorem dX7_put_31 : decode cX7_put 31 = .ok (.invokevirtual 171, 3) := by decide +kernel
theorem dX7_put_34 : decode cX7_put 34 = .ok (.aload_n 0, 1) := by decide +kernel
theorem dX7_put_35 : decode cX7_put 35 = .ok (.getfield 37, 3) := by decide +kernel
theorem dX7_put_38 : decode cX7_put 38 = .ok (.iconst 0, 1) := by decide +kernel
theorem dX7_put_39 : decode cX7_put 39 = .ok (.iload_n 1, 1) := by decide +kernel
theorem dX7_put_40 : decode cX7_put 40 = .ok (.iastore, 1) := by decide +kernel
theorem dX7_put_41 : decode cX7_put 41 = .ok (.iload_n 2, 1) := by decide +kernel
theorem dX7_put_42 : decode cX7_put 42 = .ok (.bipush 13, 2) := by decide +kernel
theorem dX7_put_44 : decode cX7_put 44 = .ok (.if_icmp .ne 8, 3) := by decide +kernel
theorem dX7_put_47 : decode cX7_put 47 = .ok (.bipush (-9), 2) := by decide +kernel
theorem dX7_put_49 : decode cX7_put 49 = .ok (.goto 4, 3) := by decide +kernel
theorem dX7_put_52 : decode cX7_put 52 = .ok (.iload_n 2, 1) := by decide +kernel
theorem dX7_put_53 : decode cX7_put 53 = .ok (.ireturn, 1) := by decide +kernel
set_option maxRecDepth 20000 in
theorem ggX7_turnVoid_X7_noContract : GoodIn wsX7_turnVoid wsX7_noContract := goodIn_r _ [7, 8, 9, 10, 6, 11, 18, 19, 20, 21, 22, 23, 24, 25, 26, 27, 28, 29, 30, 31, 32, 33, 34, 35, 36, 37, 38, 39, 40, 41, 42, 43, 44, 45, 46, 47, 48, 49, 50, 51] (by decide +kernel) (by decide +kernel)
set_option maxRecDepth 20000 in
theorem gX7_turnVoid_X7_noContract : GoodIn wsX7_turnVoid (wsV RX7 164 RX7 yX7_noContract wsX7_noContract) := goodIn_app (goodIn_of _ (by decide +kernel)) ggX7_turnVoid_X7_noContract
set_option maxRecDepth 20000 in
theorem ggX7_turnVoid_X7_note : GoodIn wsX7_turnVoid wsX7_note := goodIn_r _ [15, 16, 17, 2, 18, 19, 20, 21, 22, 23, 24, 25, 26, 27, 28, 29, 30, 31, 32, 33, 34, 35, 36, 37, 38, 39, 40, 41, 42, 43, 44, 45, 46, 47, 48, 49, 50, 51] (by decide +kernel) (by decide +kernel)
set_option maxRecDepth 20000 in
theorem gX7_turnVoid_X7_note : GoodIn wsX7_turnVoid (wsV RX7 171 RX7 yX7_note wsX7_note) := goodIn_app (goodIn_of _ (by decide +kernel)) ggX7_turnVoid_X7_note
theorem dX7_turnVoid_0 : decode cX7_turnVoid 0 = .ok (.aload_n 0, 1) := by decide +kernel
theorem dX7_turnVoid_1 : decode cX7_turnVoid 1 = .ok (.iconst 0, 1) := by decide +kernel
theorem dX7_turnVoid_2 : decode cX7_turnVoid 2 = .ok (.putfield 71, 3) := by decide +kernel
theorem dX7_turnVoid_5 : decode cX7_turnVoid 5 = .ok (.aload_n 0, 1) := by decide +kernel
theorem dX7_turnVoid_6 : decode cX7_turnVoid 6 = .ok (.iload_n 1, 1) := by decide +kernel
theorem dX7_turnVoid_7 : decode cX7_turnVoid 7 = .ok (.invokevirtual 164, 3) := by decide +kernel
theorem dX7_turnVoid_10 : decode cX7_turnVoid 10 = .ok (.ifCond .eq 5, 3) := by decide +kernel
theorem dX7_turnVoid_13 : decode cX7_turnVoid 13 = .ok (.iconst (-1), 1) := by decide +kernel
theorem dX7_turnVoid_14 : decode cX7_turnVoid 14 = .ok (.ireturn, 1) := by decide +kernel
theorem dX7_turnVoid_15 : decode cX7_turnVoid 15 = .ok (.aload_n 0, 1) := by decide +kernel
theorem dX7_turnVoid_16 : decode cX7_turnVoid 16 = .ok (.invokevirtual 171, 3) := by decide +kernel
theorem dX7_turnVoid_19 : decode cX7_turnVoid 19 = .ok (.aload_n 0, 1) := by decide +kernel
theorem dX7_turnVoid_20 : decode cX7_turnVoid 20 = .ok (.getfield 37, 3) := by decide +kernel
theorem dX7_turnVoid_23 : decode cX7_turnVoid 23 = .ok (.iconst 1, 1) := by decide +kernel
theorem dX7_turnVoid_24 : decode cX7_turnVoid 24 = .ok (.dup2, 1) := by decide +kernel
theorem dX7_turnVoid_25 : decode cX7_turnVoid 25 = .ok (.iaload, 1) := by decide +kernel
theorem dX7_turnVoid_26 : decode cX7_turnVoid 26 = .ok (.iconst 1, 1) := by decide +kernel
theorem dX7_turnVoid_27 : decode cX7_turnVoid 27 = .ok (.iload_n 1, 1) := by decide +kernel
theorem dX7_turnVoid_28 : decode cX7_turnVoid 28 = .ok (.ishl, 1) := by decide +kernel
theorem dX7_turnVoid_29 : decode cX7_turnVoid 29 = .ok (.ixor, 1) := by decide +kernel
theorem dX7_turnVoid_30 : decode cX7_turnVoid 30 = .ok (.iastore, 1) := by decide +kernel
theorem dX7_turnVoid_31 : decode cX7_turnVoid 31 = .ok (.aload_n 0, 1) := by decide +kernel
theorem dX7_turnVoid_32 : decode cX7_turnVoid 32 = .ok (.getfield 37, 3) := by decide +kernel
theorem dX7_turnVoid_35 : decode cX7_turnVoid 35 = .ok (.iconst 1, 1) := by decide +kernel
theorem dX7_turnVoid_36 : decode cX7_turnVoid 36 = .ok (.iaload, 1) := by decide +kernel
theorem dX7_turnVoid_37 : decode cX7_turnVoid 37 = .ok (.iload_n 1, 1) := by decide +kernel
theorem dX7_turnVoid_38 : decode cX7_turnVoid 38 = .ok (.ishr, 1) := by decide +kernel
theorem dX7_turnVoid_39 : decode cX7_turnVoid 39 = .ok (.iconst 1, 1) := by decide +kernel
theorem dX7_turnVoid_40 : decode cX7_turnVoid 40 = .ok (.iand, 1) := by decide +kernel
theorem dX7_turnVoid_41 : decode cX7_turnVoid 41 = .ok (.ireturn, 1) := by decide +kernel
set_option maxRecDepth 20000 in
theorem ggX7_readOtherwise_X7_noContract : GoodIn wsX7_readOtherwise wsX7_noContract := goodIn_r _ [7, 8, 9, 10, 6, 11, 18, 19, 20, 21, 22, 23, 24, 25, 26, 27, 28, 29, 30, 31, 32, 33, 34, 35, 36, 37, 38, 39, 40, 41, 42, 43, 44, 45, 46, 47, 48, 49, 50, 51] (by decide +kernel) (by decide +kernel)
set_option maxRecDepth 20000 in
theorem gX7_readOtherwise_X7_noContract : GoodIn wsX7_readOtherwise (wsV RX7 164 RX7 yX7_noContract wsX7_noContract) := goodIn_app (goodIn_of _ (by decide +kernel)) ggX7_readOtherwise_X7_noContract
set_option maxRecDepth 20000 in
theorem ggX7_readOtherwise_X7_note : GoodIn wsX7_readOtherwise wsX7_note := goodIn_r _ [15, 16, 17, 2, 18, 19, 20, 21, 22, 23, 24, 25, 26, 27, 28, 29, 30, 31, 32, 33, 34, 35, 36, 37, 38, 39, 40, 41, 42, 43, 44, 45, 46, 47, 48, 49, 50, 51] (by decide +kernel) (by decide +kernel)
set_option maxRecDepth 20000 in
theorem gX7_readOtherwise_X7_note : GoodIn wsX7_readOtherwise (wsV RX7 171 RX7 yX7_note wsX7_note) := goodIn_app (goodIn_of _ (by decide +kernel)) ggX7_readOtherwise_X7_note
theorem dX7_readOtherwise_0 : decode cX7_readOtherwise 0 = .ok (.aload_n 0, 1) := by decide +kernel
theorem dX7_readOtherwise_1 : decode cX7_readOtherwise 1 = .ok (.iconst 0, 1) := by decide +kernel
theorem dX7_readOtherwise_2 : decode cX7_readOtherwise 2 = .ok (.putfield 71, 3) := by decide +kernel
theorem dX7_readOtherwise_5 : decode cX7_readOtherwise 5 = .ok (.aload_n 0, 1) := by decide +kernel
theorem dX7_readOtherwise_6 : decode cX7_readOtherwise 6 = .ok (.iload_n 1, 1) := by decide +kernel
theorem dX7_readOtherwise_7 : decode cX7_readOtherwise 7 = .ok (.invokevirtual 164, 3) := by decide +kernel
theorem dX7_readOtherwise_10 : decode cX7_readOtherwise 10 = .ok (.ifCond .eq 5, 3) := by decide +kernel
theorem dX7_readOtherwise_13 : decode cX7_readOtherwise 13 = .ok (.iconst (-1), 1) := by decide +kernel
theorem dX7_readOtherwise_14 : decode cX7_readOtherwise 14 = .ok (.ireturn, 1) := by decide +kernel
theorem dX7_readOtherwise_15 : decode cX7_readOtherwise 15 = .ok (.aload_n 0, 1) := by decide +kernel
theorem dX7_readOtherwise_16 : decode cX7_readOtherwise 16 = .ok (.getfield 37, 3) := by decide +kernel
theorem dX7_readOtherwise_19 : decode cX7_readOtherwise 19 = .ok (.iconst 2, 1) := by decide +kernel
theorem dX7_readOtherwise_20 : decode cX7_readOtherwise 20 = .ok (.iload_n 1, 1) := by decide +kernel
theorem dX7_readOtherwise_21 : decode cX7_readOtherwise 21 = .ok (.iadd, 1) := by decide +kernel
theorem dX7_readOtherwise_22 : decode cX7_readOtherwise 22 = .ok (.iaload, 1) := by decide +kernel
theorem dX7_readOtherwise_23 : decode cX7_readOtherwise 23 = .ok (.ifCond .ne 20, 3) := by decide +kernel
theorem dX7_readOtherwise_26 : decode cX7_readOtherwise 26 = .ok (.aload_n 0, 1) := by decide +kernel
theorem dX7_readOtherwise_27 : decode cX7_readOtherwise 27 = .ok (.getfield 37, 3) := by decide +kernel
theorem dX7_readOtherwise_30 : decode cX7_readOtherwise 30 = .ok (.bipush 7, 2) := by decide +kernel
theorem dX7_readOtherwise_32 : decode cX7_readOtherwise 32 = .ok (.iload_n 1, 1) := by decide +kernel
theorem dX7_readOtherwise_33 : decode cX7_readOtherwise 33 = .ok (.iadd, 1) := by decide +kernel
theorem dX7_readOtherwise_34 : decode cX7_readOtherwise 34 = .ok (.iaload, 1) := by decide +kernel
theorem dX7_readOtherwise_35 : decode cX7_readOtherwise 35 = .ok (.bipush 9, 2) := by decide +kernel
theorem dX7_readOtherwise_37 : decode cX7_readOtherwise 37 = .ok (.if_icmp .le 6, 3) := by decide +kernel
theorem dX7_readOtherwise_40 : decode cX7_readOtherwise 40 = .ok (.bipush (-3), 2) := by decide +kernel
theorem dX7_readOtherwise_42 : decode cX7_readOtherwise 42 = .ok (.ireturn, 1) := by decide +kernel
theorem dX7_readOtherwise_43 : decode cX7_readOtherwise 43 = .ok (.aload_n 0, 1) := by decide +kernel
theorem dX7_readOtherwise_44 : decode cX7_readOtherwise 44 = .ok (.invokevirtual 171, 3) := by decide +kernel
theorem dX7_readOtherwise_47 : decode cX7_readOtherwise 47 = .ok (.aload_n 0, 1) := by decide +kernel
theorem dX7_readOtherwise_48 : decode cX7_readOtherwise 48 = .ok (.getfield 37, 3) := by decide +kernel
theorem dX7_readOtherwise_51 : decode cX7_readOtherwise 51 = .ok (.iconst 2, 1) := by decide +kernel
theorem dX7_readOtherwise_52 : decode cX7_readOtherwise 52 = .ok (.iload_n 1, 1) := by decide +kernel
theorem dX7_readOtherwise_53 : decode cX7_readOtherwise 53 = .ok (.iadd, 1) := by decide +kernel
theorem dX7_readOtherwise_54 : decode cX7_readOtherwise 54 = .ok (.iconst 1, 1) := by decide +kernel
theorem dX7_readOtherwise_55 : decode cX7_readOtherwise 55 = .ok (.aload_n 0, 1) := by decide +kernel
theorem dX7_readOtherwise_56 : decode cX7_readOtherwise 56 = .ok (.getfield 37, 3) := by decide +kernel
theorem dX7_readOtherwise_59 : decode cX7_readOtherwise 59 = .ok (.iconst 2, 1) := by decide +kernel
theorem dX7_readOtherwise_60 : decode cX7_readOtherwise 60 = .ok (.iload_n 1, 1) := by decide +kernel
theorem dX7_readOtherwise_61 : decode cX7_readOtherwise 61 = .ok (.iadd, 1) := by decide +kernel
theorem dX7_readOtherwise_62 : decode cX7_readOtherwise 62 = .ok (.iaload, 1) := by decide +kernel
theorem dX7_readOtherwise_63 : decode cX7_readOtherwise 63 = .ok (.isub, 1) := by decide +kernel
theorem dX7_readOtherwise_64 : decode cX7_readOtherwise 64 = .ok (.iastore, 1) := by decide +kernel
theorem dX7_readOtherwise_65 : decode cX7_readOtherwise 65 = .ok (.aload_n 0, 1) := by decide +kernel
theorem dX7_readOtherwise_66 : decode cX7_readOtherwise 66 = .ok (.getfield 37, 3) := by decide +kernel
theorem dX7_readOtherwise_69 : decode cX7_readOtherwise 69 = .ok (.iconst 2, 1) := by decide +kernel
theorem dX7_readOtherwise_70 : decode cX7_readOtherwise 70 = .ok (.iload_n 1, 1) := by decide +kernel
theorem dX7_readOtherwise_71 : decode cX7_readOtherwise 71 = .ok (.iadd, 1) := by decide +kernel
theorem dX7_readOtherwise_72 : decode cX7_readOtherwise 72 = .ok (.iaload, 1) := by decide +kernel
theorem dX7_readOtherwise_73 : decode cX7_readOtherwise 73 = .ok (.ireturn, 1) := by decide +kernel
theorem dX7_undo_0 : decode cX7_undo 0 = .ok (.aload_n 0, 1) := by decide +kernel
theorem dX7_undo_1 : decode cX7_undo 1 = .ok (.iconst 0, 1) := by decide +kernel
theorem dX7_undo_2 : decode cX7_undo 2 = .ok (.putfield 71, 3) := by decide +kernel
theorem dX7_undo_5 : decode cX7_undo 5 = .ok (.aload_n 0, 1) := by decide +kernel
theorem dX7_undo_6 : decode cX7_undo 6 = .ok (.getfield 140, 3) := by decide +kernel
theorem dX7_undo_9 : decode cX7_undo 9 = .ok (.ifCond .ne 6, 3) := by decide +kernel
theorem dX7_undo_12 : decode cX7_undo 12 = .ok (.bipush (-3), 2) := by decide +kernel
theorem dX7_undo_14 : decode cX7_undo 14 = .ok (.ireturn, 1) := by decide +kernel
theorem dX7_undo_15 : decode cX7_undo 15 = .ok (.aload_n 0, 1) := by decide +kernel
theorem dX7_undo_16 : decode cX7_undo 16 = .ok (.dup, 1) := by decide +kernel
theorem dX7_undo_17 : decode cX7_undo 17 = .ok (.getfield 140, 3) := by decide +kernel
theorem dX7_undo_20 : decode cX7_undo 20 = .ok (.iconst 1, 1) := by decide +kernel
theorem dX7_undo_21 : decode cX7_undo 21 = .ok (.isub, 1) := by decide +kernel
theorem dX7_undo_22 : decode cX7_undo 22 = .ok (.putfield 140, 3) := by decide +kernel
theorem dX7_undo_25 : decode cX7_undo 25 = .ok (.iconst 0, 1) := by decide +kernel
theorem dX7_undo_26 : decode cX7_undo 26 = .ok (.istore_n 1, 1) := by decide +kernel
theorem dX7_undo_27 : decode cX7_undo 27 = .ok (.iload_n 1, 1) := by decide +kernel
theorem dX7_undo_28 : decode cX7_undo 28 = .ok (.bipush 12, 2) := by decide +kernel
theorem dX7_undo_30 : decode cX7_undo 30 = .ok (.if_icmp .ge 29, 3) := by decide +kernel
theorem dX7_undo_33 : decode cX7_undo 33 = .ok (.aload_n 0, 1) := by decide +kernel
theorem dX7_undo_34 : decode cX7_undo 34 = .ok (.getfield 37, 3) := by decide +kernel
theorem dX7_undo_37 : decode cX7_undo 37 = .ok (.iload_n 1, 1) := by decide +kernel
theorem dX7_undo_38 : decode cX7_undo 38 = .ok (.aload_n 0, 1) := by decide +kernel
theorem dX7_undo_39 : decode cX7_undo 39 = .ok (.getfield 40, 3) := by decide +kernel
theorem dX7_undo_42 : decode cX7_undo 42 = .ok (.bipush 12, 2) := by decide +kernel
theorem dX7_undo_44 : decode cX7_undo 44 = .ok (.aload_n 0, 1) := by decide +kernel
theorem dX7_undo_45 : decode cX7_undo 45 = .ok (.getfield 140, 3) := by decide +kernel
theorem dX7_undo_48 : decode cX7_undo 48 = .ok (.imul, 1) := by decide +kernel
theorem dX7_undo_49 : decode cX7_undo 49 = .ok (.iload_n 1, 1) := by decide +kernel
theorem dX7_undo_50 : decode cX7_undo 50 = .ok (.iadd, 1) := by decide +kernel
theorem dX7_undo_51 : decode cX7_undo 51 = .ok (.iaload, 1) := by decide +kernel
theorem dX7_undo_52 : decode cX7_undo 52 = .ok (.iastore, 1) := by decide +kernel
theorem dX7_undo_53 : decode cX7_undo 53 = .ok (.iinc 1 1, 3) := by decide +kernel
theorem dX7_undo_56 : decode cX7_undo 56 = .ok (.goto (-29), 3) := by decide +kernel
theorem dX7_undo_59 : decode cX7_undo 59 = .ok (.aload_n 0, 1) := by decide +kernel
theorem dX7_undo_60 : decode cX7_undo 60 = .ok (.getfield 140, 3) := by decide +kernel
theorem dX7_undo_63 : decode cX7_undo 63 = .ok (.ireturn, 1) := by decide +kernel
set_option maxRecDepth 20000 in
theorem ggX7_broken_X7_noPlace : GoodIn wsX7_broken wsX7_noPlace := goodIn_r _ [5, 6, 7, 8, 4, 9] (by decide +kernel) (by decide +kernel)
set_option maxRecDepth 20000 in
theorem gX7_broken_X7_noPlace : GoodIn wsX7_broken (va_wsS RX7 168 yX7_noPlace wsX7_noPlace) := goodIn_app (goodIn_of _ (by decide +kernel)) ggX7_broken_X7_noPlace
set_option maxRecDepth 20000 in
theorem ggX7_broken_X7_brokenBy : GoodIn wsX7_broken wsX7_brokenBy := goodIn_r _ [13, 14, 15, 16, 17, 4, 18, 19, 20, 21, 22, 23, 24, 25, 26, 27, 28, 29, 30, 31, 32, 33, 34, 35, 36, 37, 38, 39, 40, 41, 42, 43, 44, 45, 46, 47, 48, 49, 50, 51, 52, 53, 54, 55, 56, 57, 58, 59, 60, 61, 62, 63, 64] (by decide +kernel) (by decide +kernel)
set_option maxRecDepth 20000 in
theorem gX7_broken_X7_brokenBy : GoodIn wsX7_broken (wsV RX7 157 RX7 yX7_brokenBy wsX7_brokenBy) := goodIn_app (goodIn_of _ (by decide +kernel)) ggX7_broken_X7_brokenBy
theorem dX7_broken_0 : decode cX7_broken 0 = .ok (.aload_n 0, 1) := by decide +kernel
theorem dX7_broken_1 : decode cX7_broken 1 = .ok (.iconst 0, 1) := by decide +kernel
theorem dX7_broken_2 : decode cX7_broken 2 = .ok (.putfield 71, 3) := by decide +kernel
theorem dX7_broken_5 : decode cX7_broken 5 = .ok (.iload_n 1, 1) := by decide +kernel
theorem dX7_broken_6 : decode cX7_broken 6 = .ok (.invokestatic 168, 3) := by decide +kernel
theorem dX7_broken_9 : decode cX7_broken 9 = .ok (.ifCond .eq 8, 3) := by decide +kernel
theorem dX7_broken_12 : decode cX7_broken 12 = .ok (.bipush (-2), 2) := by decide +kernel
theorem dX7_broken_14 : decode cX7_broken 14 = .ok (.goto 8, 3) := by decide +kernel
theorem dX7_broken_17 : decode cX7_broken 17 = .ok (.aload_n 0, 1) := by decide +kernel
theorem dX7_broken_18 : decode cX7_broken 18 = .ok (.iload_n 1, 1) := by decide +kernel
theorem dX7_broken_19 : decode cX7_broken 19 = .ok (.invokevirtual 157, 3) := by decide +kernel
theorem dX7_broken_22 : decode cX7_broken 22 = .ok (.ireturn, 1) := by decide +kernel
set_option maxRecDepth 20000 in
theorem ggX7_best_X7_in : GoodIn wsX7_best wsX7_in := goodIn_r _ [6] (by decide +kernel) (by decide +kernel)
set_option maxRecDepth 20000 in
theorem gX7_best_X7_in : GoodIn wsX7_best (va_wsS RX7 78 yX7_in wsX7_in) := goodIn_app (goodIn_of _ (by decide +kernel)) ggX7_best_X7_in
set_option maxRecDepth 20000 in
theorem ggX7_best_X7_brokenBy : GoodIn wsX7_best wsX7_brokenBy := goodIn_r _ [10, 2, 11, 12, 13, 5, 14, 15, 16, 17, 18, 19, 20, 21, 22, 23, 24, 25, 26, 30, 31, 32, 33, 34, 35, 36, 37, 38, 39, 40, 41, 42, 43, 44, 45, 46, 47, 48, 49, 50, 51, 52, 53, 54, 55, 56, 57, 58, 59, 60, 61, 62, 63] (by decide +kernel) (by decide +kernel)
set_option maxRecDepth 20000 in
theorem gX7_best_X7_brokenBy : GoodIn wsX7_best (wsV RX7 157 RX7 yX7_brokenBy wsX7_brokenBy) := goodIn_app (goodIn_of _ (by decide +kernel)) ggX7_best_X7_brokenBy
set_option maxRecDepth 20000 in
theorem ggX7_best_X7_many : GoodIn wsX7_best wsX7_many := goodIn_r _ [29] (by decide +kernel) (by decide +kernel)
set_option maxRecDepth 20000 in
theorem gX7_best_X7_many : GoodIn wsX7_best (va_wsS RX7 174 yX7_many wsX7_many) := goodIn_app (goodIn_of _ (by decide +kernel)) ggX7_best_X7_many
theorem dX7_best_0 : decode cX7_best 0 = .ok (.aload_n 0, 1) := by decide +kernel
theorem dX7_best_1 : decode cX7_best 1 = .ok (.iconst 0, 1) := by decide +kernel
theorem dX7_best_2 : decode cX7_best 2 = .ok (.putfield 71, 3) := by decide +kernel
theorem dX7_best_5 : decode cX7_best 5 = .ok (.iload_n 1, 1) := by decide +kernel
theorem dX7_best_6 : decode cX7_best 6 = .ok (.i2l, 1) := by decide +kernel
theorem dX7_best_7 : decode cX7_best 7 = .ok (.lconst 0, 1) := by decide +kernel
theorem dX7_best_8 : decode cX7_best 8 = .ok (.iconst 1, 1) := by decide +kernel
theorem dX7_best_9 : decode cX7_best 9 = .ok (.aload_n 0, 1) := by decide +kernel
theorem dX7_best_10 : decode cX7_best 10 = .ok (.getfield 75, 3) := by decide +kernel
theorem dX7_best_13 : decode cX7_best 13 = .ok (.ishl, 1) := by decide +kernel
theorem dX7_best_14 : decode cX7_best 14 = .ok (.iconst 1, 1) := by decide +kernel
theorem dX7_best_15 : decode cX7_best 15 = .ok (.isub, 1) := by decide +kernel
theorem dX7_best_16 : decode cX7_best 16 = .ok (.i2l, 1) := by decide +kernel
theorem dX7_best_17 : decode cX7_best 17 = .ok (.invokestatic 78, 3) := by decide +kernel
theorem dX7_best_20 : decode cX7_best 20 = .ok (.ifCond .eq 13, 3) := by decide +kernel
theorem dX7_best_23 : decode cX7_best 23 = .ok (.iload_n 2, 1) := by decide +kernel
theorem dX7_best_24 : decode cX7_best 24 = .ok (.i2l, 1) := by decide +kernel
theorem dX7_best_25 : decode cX7_best 25 = .ok (.lconst 0, 1) := by decide +kernel
theorem dX7_best_26 : decode cX7_best 26 = .ok (.lconst 1, 1) := by decide +kernel
theorem dX7_best_27 : decode cX7_best 27 = .ok (.invokestatic 78, 3) := by decide +kernel
theorem dX7_best_30 : decode cX7_best 30 = .ok (.ifCond .ne 6, 3) := by decide +kernel
theorem dX7_best_33 : decode cX7_best 33 = .ok (.bipush (-2), 2) := by decide +kernel
theorem dX7_best_35 : decode cX7_best 35 = .ok (.ireturn, 1) := by decide +kernel
theorem dX7_best_36 : decode cX7_best 36 = .ok (.bipush (-9), 2) := by decide +kernel
theorem dX7_best_38 : decode cX7_best 38 = .ok (.istore_n 3, 1) := by decide +kernel
theorem dX7_best_39 : decode cX7_best 39 = .ok (.sipush 9999, 3) := by decide +kernel
theorem dX7_best_42 : decode cX7_best 42 = .ok (.istore 4, 2) := by decide +kernel
theorem dX7_best_44 : decode cX7_best 44 = .ok (.iconst 0, 1) := by decide +kernel
theorem dX7_best_45 : decode cX7_best 45 = .ok (.istore 5, 2) := by decide +kernel
theorem dX7_best_47 : decode cX7_best 47 = .ok (.iload 5, 2) := by decide +kernel
theorem dX7_best_49 : decode cX7_best 49 = .ok (.bipush 14, 2) := by decide +kernel
theorem dX7_best_51 : decode cX7_best 51 = .ok (.if_icmp .ge 44, 3) := by decide +kernel
theorem dX7_best_54 : decode cX7_best 54 = .ok (.aload_n 0, 1) := by decide +kernel
theorem dX7_best_55 : decode cX7_best 55 = .ok (.iload 5, 2) := by decide +kernel
theorem dX7_best_57 : decode cX7_best 57 = .ok (.invokevirtual 157, 3) := by decide +kernel
theorem dX7_best_60 : decode cX7_best 60 = .ok (.istore 6, 2) := by decide +kernel
theorem dX7_best_62 : decode cX7_best 62 = .ok (.iload 6, 2) := by decide +kernel
theorem dX7_best_64 : decode cX7_best 64 = .ok (.iload_n 1, 1) := by decide +kernel
theorem dX7_best_65 : decode cX7_best 65 = .ok (.iand, 1) := by decide +kernel
theorem dX7_best_66 : decode cX7_best 66 = .ok (.ifCond .ne 23, 3) := by decide +kernel
theorem dX7_best_69 : decode cX7_best 69 = .ok (.iload 6, 2) := by decide +kernel
theorem dX7_best_71 : decode cX7_best 71 = .ok (.invokestatic 174, 3) := by decide +kernel
theorem dX7_best_74 : decode cX7_best 74 = .ok (.iload 4, 2) := by decide +kernel
theorem dX7_best_76 : decode cX7_best 76 = .ok (.if_icmp .ge 13, 3) := by decide +kernel
theorem dX7_best_79 : decode cX7_best 79 = .ok (.iload 6, 2) := by decide +kernel
theorem dX7_best_81 : decode cX7_best 81 = .ok (.invokestatic 174, 3) := by decide +kernel
theorem dX7_best_84 : decode cX7_best 84 = .ok (.istore 4, 2) := by decide +kernel
theorem dX7_best_86 : decode cX7_best 86 = .ok (.iload 5, 2) := by decide +kernel
theorem dX7_best_88 : decode cX7_best 88 = .ok (.istore_n 3, 1) := by decide +kernel
theorem dX7_best_89 : decode cX7_best 89 = .ok (.iinc 5 1, 3) := by decide +kernel
theorem dX7_best_92 : decode cX7_best 92 = .ok (.goto (-45), 3) := by decide +kernel
theorem dX7_best_95 : decode cX7_best 95 = .ok (.iload_n 3, 1) := by decide +kernel
theorem dX7_best_96 : decode cX7_best 96 = .ok (.bipush (-9), 2) := by decide +kernel
theorem dX7_best_98 : decode cX7_best 98 = .ok (.if_icmp .ne 8, 3) := by decide +kernel
theorem dX7_best_101 : decode cX7_best 101 = .ok (.bipush (-9), 2) := by decide +kernel
theorem dX7_best_103 : decode cX7_best 103 = .ok (.goto 13, 3) := by decide +kernel
theorem dX7_best_106 : decode cX7_best 106 = .ok (.iload_n 2, 1) := by decide +kernel
theorem dX7_best_107 : decode cX7_best 107 = .ok (.ifCond .ne 7, 3) := by decide +kernel
theorem dX7_best_110 : decode cX7_best 110 = .ok (.iload_n 3, 1) := by decide +kernel
theorem dX7_best_111 : decode cX7_best 111 = .ok (.goto 5, 3) := by decide +kernel
theorem dX7_best_114 : decode cX7_best 114 = .ok (.iload 4, 2) := by decide +kernel
theorem dX7_best_116 : decode cX7_best 116 = .ok (.ireturn, 1) := by decide +kernel
set_option maxRecDepth 20000 in
theorem ggX7_quarrel_X7_isBroken : GoodIn wsX7_quarrel wsX7_isBroken := goodIn_r _ [8, 3, 9, 10, 11, 12, 7, 13, 14, 15, 16, 20, 21, 22, 23, 24, 25, 26, 27, 28, 29, 30, 31, 32, 33, 34, 35, 36, 37, 38, 39, 40, 41, 42, 43, 44, 45, 46, 47, 48, 49, 50, 51, 52, 53] (by decide +kernel) (by decide +kernel)
set_option maxRecDepth 20000 in
theorem gX7_quarrel_X7_isBroken : GoodIn wsX7_quarrel (wsV RX7 154 RX7 yX7_isBroken wsX7_isBroken) := goodIn_app (goodIn_of _ (by decide +kernel)) ggX7_quarrel_X7_isBroken
set_option maxRecDepth 20000 in
theorem ggX7_quarrel_X7_has : GoodIn wsX7_quarrel wsX7_has := goodIn_r _ [19] (by decide +kernel) (by decide +kernel)
set_option maxRecDepth 20000 in
theorem gX7_quarrel_X7_has : GoodIn wsX7_quarrel (va_wsS RX7 150 yX7_has wsX7_has) := goodIn_app (goodIn_of _ (by decide +kernel)) ggX7_quarrel_X7_has
theorem dX7_quarrel_0 : decode cX7_quarrel 0 = .ok (.aload_n 0, 1) := by decide +kernel
theorem dX7_quarrel_1 : decode cX7_quarrel 1 = .ok (.iconst 0, 1) := by decide +kernel
theorem dX7_quarrel_2 : decode cX7_quarrel 2 = .ok (.putfield 71, 3) := by decide +kernel
theorem dX7_quarrel_5 : decode cX7_quarrel 5 = .ok (.iconst 0, 1) := by decide +kernel
theorem dX7_quarrel_6 : decode cX7_quarrel 6 = .ok (.istore_n 1, 1) := by decide +kernel
theorem dX7_quarrel_7 : decode cX7_quarrel 7 = .ok (.iload_n 1, 1) := by decide +kernel
theorem dX7_quarrel_8 : decode cX7_quarrel 8 = .ok (.aload_n 0, 1) := by decide +kernel
theorem dX7_quarrel_9 : decode cX7_quarrel 9 = .ok (.getfield 75, 3) := by decide +kernel
theorem dX7_quarrel_12 : decode cX7_quarrel 12 = .ok (.if_icmp .ge 186, 3) := by decide +kernel
theorem dX7_quarrel_15 : decode cX7_quarrel 15 = .ok (.iload_n 1, 1) := by decide +kernel
theorem dX7_quarrel_16 : decode cX7_quarrel 16 = .ok (.iconst 1, 1) := by decide +kernel
theorem dX7_quarrel_17 : decode cX7_quarrel 17 = .ok (.iadd, 1) := by decide +kernel
theorem dX7_quarrel_18 : decode cX7_quarrel 18 = .ok (.istore_n 2, 1) := by decide +kernel
theorem dX7_quarrel_19 : decode cX7_quarrel 19 = .ok (.iload_n 2, 1) := by decide +kernel
theorem dX7_quarrel_20 : decode cX7_quarrel 20 = .ok (.aload_n 0, 1) := by decide +kernel
theorem dX7_quarrel_21 : decode cX7_quarrel 21 = .ok (.getfield 75, 3) := by decide +kernel
theorem dX7_quarrel_24 : decode cX7_quarrel 24 = .ok (.if_icmp .ge 168, 3) := by decide +kernel
theorem dX7_quarrel_27 : decode cX7_quarrel 27 = .ok (.iconst 0, 1) := by decide +kernel
theorem dX7_quarrel_28 : decode cX7_quarrel 28 = .ok (.istore_n 3, 1) := by decide +kernel
theorem dX7_quarrel_29 : decode cX7_quarrel 29 = .ok (.iconst 0, 1) := by decide +kernel
theorem dX7_quarrel_30 : decode cX7_quarrel 30 = .ok (.istore 4, 2) := by decide +kernel
theorem dX7_quarrel_32 : decode cX7_quarrel 32 = .ok (.iconst 0, 1) := by decide +kernel
theorem dX7_quarrel_33 : decode cX7_quarrel 33 = .ok (.istore 5, 2) := by decide +kernel
theorem dX7_quarrel_35 : decode cX7_quarrel 35 = .ok (.iconst 0, 1) := by decide +kernel
theorem dX7_quarrel_36 : decode cX7_quarrel 36 = .ok (.istore 6, 2) := by decide +kernel
theorem dX7_quarrel_38 : decode cX7_quarrel 38 = .ok (.iload 6, 2) := by decide +kernel
theorem dX7_quarrel_40 : decode cX7_quarrel 40 = .ok (.bipush 14, 2) := by decide +kernel
theorem dX7_quarrel_42 : decode cX7_quarrel 42 = .ok (.if_icmp .ge 97, 3) := by decide +kernel
theorem dX7_quarrel_45 : decode cX7_quarrel 45 = .ok (.aload_n 0, 1) := by decide +kernel
theorem dX7_quarrel_46 : decode cX7_quarrel 46 = .ok (.iload_n 1, 1) := by decide +kernel
theorem dX7_quarrel_47 : decode cX7_quarrel 47 = .ok (.iload 6, 2) := by decide +kernel
theorem dX7_quarrel_49 : decode cX7_quarrel 49 = .ok (.invokevirtual 154, 3) := by decide +kernel
theorem dX7_quarrel_52 : decode cX7_quarrel 52 = .ok (.ifCond .ne 7, 3) := by decide +kernel
theorem dX7_quarrel_55 : decode cX7_quarrel 55 = .ok (.iconst 1, 1) := by decide +kernel
theorem dX7_quarrel_56 : decode cX7_quarrel 56 = .ok (.goto 4, 3) := by decide +kernel
theorem dX7_quarrel_59 : decode cX7_quarrel 59 = .ok (.iconst 0, 1) := by decide +kernel
theorem dX7_quarrel_60 : decode cX7_quarrel 60 = .ok (.istore 7, 2) := by decide +kernel
theorem dX7_quarrel_62 : decode cX7_quarrel 62 = .ok (.aload_n 0, 1) := by decide +kernel
theorem dX7_quarrel_63 : decode cX7_quarrel 63 = .ok (.iload_n 2, 1) := by decide +kernel
theorem dX7_quarrel_64 : decode cX7_quarrel 64 = .ok (.iload 6, 2) := by decide +kernel
theorem dX7_quarrel_66 : decode cX7_quarrel 66 = .ok (.invokevirtual 154, 3) := by decide +kernel
theorem dX7_quarrel_69 : decode cX7_quarrel 69 = .ok (.ifCond .ne 7, 3) := by decide +kernel
theorem dX7_quarrel_72 : decode cX7_quarrel 72 = .ok (.iconst 1, 1) := by decide +kernel
theorem dX7_quarrel_73 : decode cX7_quarrel 73 = .ok (.goto 4, 3) := by decide +kernel
theorem dX7_quarrel_76 : decode cX7_quarrel 76 = .ok (.iconst 0, 1) := by decide +kernel
theorem dX7_quarrel_77 : decode cX7_quarrel 77 = .ok (.istore 8, 2) := by decide +kernel
theorem dX7_quarrel_79 : decode cX7_quarrel 79 = .ok (.iload_n 3, 1) := by decide +kernel
theorem dX7_quarrel_80 : decode cX7_quarrel 80 = .ok (.ifCond .ne 8, 3) := by decide +kernel
theorem dX7_quarrel_83 : decode cX7_quarrel 83 = .ok (.iload 7, 2) := by decide +kernel
theorem dX7_quarrel_85 : decode cX7_quarrel 85 = .ok (.ifCond .eq 7, 3) := by decide +kernel
theorem dX7_quarrel_88 : decode cX7_quarrel 88 = .ok (.iconst 1, 1) := by decide +kernel
theorem dX7_quarrel_89 : decode cX7_quarrel 89 = .ok (.goto 4, 3) := by decide +kernel
theorem dX7_quarrel_92 : decode cX7_quarrel 92 = .ok (.iconst 0, 1) := by decide +kernel
theorem dX7_quarrel_93 : decode cX7_quarrel 93 = .ok (.istore_n 3, 1) := by decide +kernel
theorem dX7_quarrel_94 : decode cX7_quarrel 94 = .ok (.iload 4, 2) := by decide +kernel
theorem dX7_quarrel_96 : decode cX7_quarrel 96 = .ok (.ifCond .ne 8, 3) := by decide +kernel
theorem dX7_quarrel_99 : decode cX7_quarrel 99 = .ok (.iload 8, 2) := by decide +kernel
theorem dX7_quarrel_101 : decode cX7_quarrel 101 = .ok (.ifCond .eq 7, 3) := by decide +kernel
theorem dX7_quarrel_104 : decode cX7_quarrel 104 = .ok (.iconst 1, 1) := by decide +kernel
theorem dX7_quarrel_105 : decode cX7_quarrel 105 = .ok (.goto 4, 3) := by decide +kernel
theorem dX7_quarrel_108 : decode cX7_quarrel 108 = .ok (.iconst 0, 1) := by decide +kernel
theorem dX7_quarrel_109 : decode cX7_quarrel 109 = .ok (.istore 4, 2) := by decide +kernel
theorem dX7_quarrel_111 : decode cX7_quarrel 111 = .ok (.iload 5, 2) := by decide +kernel
theorem dX7_quarrel_113 : decode cX7_quarrel 113 = .ok (.ifCond .ne 13, 3) := by decide +kernel
theorem dX7_quarrel_116 : decode cX7_quarrel 116 = .ok (.iload 7, 2) := by decide +kernel
theorem dX7_quarrel_118 : decode cX7_quarrel 118 = .ok (.ifCond .eq 12, 3) := by decide +kernel
theorem dX7_quarrel_121 : decode cX7_quarrel 121 = .ok (.iload 8, 2) := by decide +kernel
theorem dX7_quarrel_123 : decode cX7_quarrel 123 = .ok (.ifCond .eq 7, 3) := by decide +kernel
theorem dX7_quarrel_126 : decode cX7_quarrel 126 = .ok (.iconst 1, 1) := by decide +kernel
theorem dX7_quarrel_127 : decode cX7_quarrel 127 = .ok (.goto 4, 3) := by decide +kernel
theorem dX7_quarrel_130 : decode cX7_quarrel 130 = .ok (.iconst 0, 1) := by decide +kernel
theorem dX7_quarrel_131 : decode cX7_quarrel 131 = .ok (.istore 5, 2) := by decide +kernel
theorem dX7_quarrel_133 : decode cX7_quarrel 133 = .ok (.iinc 6 1, 3) := by decide +kernel
theorem dX7_quarrel_136 : decode cX7_quarrel 136 = .ok (.goto (-98), 3) := by decide +kernel
theorem dX7_quarrel_139 : decode cX7_quarrel 139 = .ok (.aload_n 0, 1) := by decide +kernel
theorem dX7_quarrel_140 : decode cX7_quarrel 140 = .ok (.getfield 37, 3) := by decide +kernel
theorem dX7_quarrel_143 : decode cX7_quarrel 143 = .ok (.iconst 1, 1) := by decide +kernel
theorem dX7_quarrel_144 : decode cX7_quarrel 144 = .ok (.iaload, 1) := by decide +kernel
theorem dX7_quarrel_145 : decode cX7_quarrel 145 = .ok (.iload_n 1, 1) := by decide +kernel
theorem dX7_quarrel_146 : decode cX7_quarrel 146 = .ok (.invokestatic 150, 3) := by decide +kernel
theorem dX7_quarrel_149 : decode cX7_quarrel 149 = .ok (.ifCond .ne 37, 3) := by decide +kernel
theorem dX7_quarrel_152 : decode cX7_quarrel 152 = .ok (.aload_n 0, 1) := by decide +kernel
theorem dX7_quarrel_153 : decode cX7_quarrel 153 = .ok (.getfield 37, 3) := by decide +kernel
theorem dX7_quarrel_156 : decode cX7_quarrel 156 = .ok (.iconst 1, 1) := by decide +kernel
theorem dX7_quarrel_157 : decode cX7_quarrel 157 = .ok (.iaload, 1) := by decide +kernel
theorem dX7_quarrel_158 : decode cX7_quarrel 158 = .ok (.iload_n 2, 1) := by decide +kernel
theorem dX7_quarrel_159 : decode cX7_quarrel 159 = .ok (.invokestatic 150, 3) := by decide +kernel
theorem dX7_quarrel_162 : decode cX7_quarrel 162 = .ok (.ifCond .ne 24, 3) := by decide +kernel
theorem dX7_quarrel_165 : decode cX7_quarrel 165 = .ok (.iload_n 3, 1) := by decide +kernel
theorem dX7_quarrel_166 : decode cX7_quarrel 166 = .ok (.ifCond .eq 20, 3) := by decide +kernel
theorem dX7_quarrel_169 : decode cX7_quarrel 169 = .ok (.iload 4, 2) := by decide +kernel
theorem dX7_quarrel_171 : decode cX7_quarrel 171 = .ok (.ifCond .eq 15, 3) := by decide +kernel
theorem dX7_quarrel_174 : decode cX7_quarrel 174 = .ok (.iload 5, 2) := by decide +kernel
theorem dX7_quarrel_176 : decode cX7_quarrel 176 = .ok (.ifCond .ne 10, 3) := by decide +kernel
theorem dX7_quarrel_179 : decode cX7_quarrel 179 = .ok (.bipush 10, 2) := by decide +kernel
theorem dX7_quarrel_181 : decode cX7_quarrel 181 = .ok (.iload_n 1, 1) := by decide +kernel
theorem dX7_quarrel_182 : decode cX7_quarrel 182 = .ok (.imul, 1) := by decide +kernel
theorem dX7_quarrel_183 : decode cX7_quarrel 183 = .ok (.iload_n 2, 1) := by decide +kernel
theorem dX7_quarrel_184 : decode cX7_quarrel 184 = .ok (.iadd, 1) := by decide +kernel
theorem dX7_quarrel_185 : decode cX7_quarrel 185 = .ok (.ireturn, 1) := by decide +kernel
theorem dX7_quarrel_186 : decode cX7_quarrel 186 = .ok (.iinc 2 1, 3) := by decide +kernel
theorem dX7_quarrel_189 : decode cX7_quarrel 189 = .ok (.goto (-170), 3) := by decide +kernel
theorem dX7_quarrel_192 : decode cX7_quarrel 192 = .ok (.iinc 1 1, 3) := by decide +kernel
theorem dX7_quarrel_195 : decode cX7_quarrel 195 = .ok (.goto (-188), 3) := by decide +kernel
theorem dX7_quarrel_198 : decode cX7_quarrel 198 = .ok (.bipush (-9), 2) := by decide +kernel
theorem dX7_quarrel_200 : decode cX7_quarrel 200 = .ok (.ireturn, 1) := by decide +kernel
set_option maxRecDepth 20000 in
theorem ggX7_drop_X7_brokenBy : GoodIn wsX7_drop wsX7_brokenBy := goodIn_r _ [6, 7, 8, 9, 10, 5, 11, 12, 13, 14, 15, 16, 17, 18, 19, 20, 21, 22, 23, 27, 28, 29, 30, 31, 32, 33, 34, 35, 36, 37, 38, 39, 40, 41, 42, 43, 44, 45, 46, 47, 48, 49, 50, 51, 52, 53, 54, 55, 56, 57, 58, 59, 60] (by decide +kernel) (by decide +kernel)
set_option maxRecDepth 20000 in
theorem gX7_drop_X7_brokenBy : GoodIn wsX7_drop (wsV RX7 157 RX7 yX7_brokenBy wsX7_brokenBy) := goodIn_app (goodIn_of _ (by decide +kernel)) ggX7_drop_X7_brokenBy
set_option maxRecDepth 20000 in
theorem ggX7_drop_X7_many : GoodIn wsX7_drop wsX7_many := goodIn_r _ [26] (by decide +kernel) (by decide +kernel)
set_option maxRecDepth 20000 in
theorem gX7_drop_X7_many : GoodIn wsX7_drop (va_wsS RX7 174 yX7_many wsX7_many) := goodIn_app (goodIn_of _ (by decide +kernel)) ggX7_drop_X7_many
theorem dX7_drop_0 : decode cX7_drop 0 = .ok (.aload_n 0, 1) := by decide +kernel
theorem dX7_drop_1 : decode cX7_drop 1 = .ok (.iconst 0, 1) := by decide +kernel
theorem dX7_drop_2 : decode cX7_drop 2 = .ok (.putfield 71, 3) := by decide +kernel
theorem dX7_drop_5 : decode cX7_drop 5 = .ok (.aload_n 0, 1) := by decide +kernel
theorem dX7_drop_6 : decode cX7_drop 6 = .ok (.iconst 0, 1) := by decide +kernel
theorem dX7_drop_7 : decode cX7_drop 7 = .ok (.invokevirtual 157, 3) := by decide +kernel
theorem dX7_drop_10 : decode cX7_drop 10 = .ok (.istore_n 1, 1) := by decide +kernel
theorem dX7_drop_11 : decode cX7_drop 11 = .ok (.iconst 1, 1) := by decide +kernel
theorem dX7_drop_12 : decode cX7_drop 12 = .ok (.istore_n 2, 1) := by decide +kernel
theorem dX7_drop_13 : decode cX7_drop 13 = .ok (.iload_n 2, 1) := by decide +kernel
theorem dX7_drop_14 : decode cX7_drop 14 = .ok (.bipush 13, 2) := by decide +kernel
theorem dX7_drop_16 : decode cX7_drop 16 = .ok (.if_icmp .ge 44, 3) := by decide +kernel
theorem dX7_drop_19 : decode cX7_drop 19 = .ok (.aload_n 0, 1) := by decide +kernel
theorem dX7_drop_20 : decode cX7_drop 20 = .ok (.iload_n 2, 1) := by decide +kernel
theorem dX7_drop_21 : decode cX7_drop 21 = .ok (.invokevirtual 157, 3) := by decide +kernel
theorem dX7_drop_24 : decode cX7_drop 24 = .ok (.istore_n 3, 1) := by decide +kernel
theorem dX7_drop_25 : decode cX7_drop 25 = .ok (.iload_n 3, 1) := by decide +kernel
theorem dX7_drop_26 : decode cX7_drop 26 = .ok (.invokestatic 174, 3) := by decide +kernel
theorem dX7_drop_29 : decode cX7_drop 29 = .ok (.iload_n 1, 1) := by decide +kernel
theorem dX7_drop_30 : decode cX7_drop 30 = .ok (.invokestatic 174, 3) := by decide +kernel
theorem dX7_drop_33 : decode cX7_drop 33 = .ok (.if_icmp .lt 19, 3) := by decide +kernel
theorem dX7_drop_36 : decode cX7_drop 36 = .ok (.iload_n 3, 1) := by decide +kernel
theorem dX7_drop_37 : decode cX7_drop 37 = .ok (.invokestatic 174, 3) := by decide +kernel
theorem dX7_drop_40 : decode cX7_drop 40 = .ok (.iload_n 1, 1) := by decide +kernel
theorem dX7_drop_41 : decode cX7_drop 41 = .ok (.invokestatic 174, 3) := by decide +kernel
theorem dX7_drop_44 : decode cX7_drop 44 = .ok (.if_icmp .ne 10, 3) := by decide +kernel
theorem dX7_drop_47 : decode cX7_drop 47 = .ok (.iload_n 3, 1) := by decide +kernel
theorem dX7_drop_48 : decode cX7_drop 48 = .ok (.iload_n 1, 1) := by decide +kernel
theorem dX7_drop_49 : decode cX7_drop 49 = .ok (.if_icmp .ge 5, 3) := by decide +kernel
theorem dX7_drop_52 : decode cX7_drop 52 = .ok (.iload_n 3, 1) := by decide +kernel
theorem dX7_drop_53 : decode cX7_drop 53 = .ok (.istore_n 1, 1) := by decide +kernel
theorem dX7_drop_54 : decode cX7_drop 54 = .ok (.iinc 2 1, 3) := by decide +kernel
theorem dX7_drop_57 : decode cX7_drop 57 = .ok (.goto (-44), 3) := by decide +kernel
theorem dX7_drop_60 : decode cX7_drop 60 = .ok (.iload_n 1, 1) := by decide +kernel
theorem dX7_drop_61 : decode cX7_drop 61 = .ok (.ireturn, 1) := by decide +kernel
set_option maxRecDepth 20000 in
theorem ggX7_see_X7_noContract : GoodIn wsX7_see wsX7_noContract := goodIn_r _ [10, 11, 12, 13, 9, 14, 15, 16, 17, 18, 19, 20, 21, 22, 23, 24, 25, 26, 27, 28, 29, 30, 31, 32, 33, 34, 35, 36, 37, 38, 39, 40, 41, 42, 43, 44, 45, 46, 47, 48] (by decide +kernel) (by decide +kernel)
set_option maxRecDepth 20000 in
theorem gX7_see_X7_noContract : GoodIn wsX7_see (wsV RX7 164 RX7 yX7_noContract wsX7_noContract) := goodIn_app (goodIn_of _ (by decide +kernel)) ggX7_see_X7_noContract
set_option maxRecDepth 20000 in
theorem ggX7_see_X7_in : GoodIn wsX7_see wsX7_in := goodIn_r _ [14] (by decide +kernel) (by decide +kernel)
set_option maxRecDepth 20000 in
theorem gX7_see_X7_in : GoodIn wsX7_see (va_wsS RX7 78 yX7_in wsX7_in) := goodIn_app (goodIn_of _ (by decide +kernel)) ggX7_see_X7_in
theorem dX7_see_0 : decode cX7_see 0 = .ok (.aload_n 0, 1) := by decide +kernel
theorem dX7_see_1 : decode cX7_see 1 = .ok (.iconst 0, 1) := by decide +kernel
theorem dX7_see_2 : decode cX7_see 2 = .ok (.putfield 71, 3) := by decide +kernel
theorem dX7_see_5 : decode cX7_see 5 = .ok (.aload_n 0, 1) := by decide +kernel
theorem dX7_see_6 : decode cX7_see 6 = .ok (.iload_n 1, 1) := by decide +kernel
theorem dX7_see_7 : decode cX7_see 7 = .ok (.invokevirtual 164, 3) := by decide +kernel
theorem dX7_see_10 : decode cX7_see 10 = .ok (.ifCond .eq 5, 3) := by decide +kernel
theorem dX7_see_13 : decode cX7_see 13 = .ok (.iconst (-1), 1) := by decide +kernel
theorem dX7_see_14 : decode cX7_see 14 = .ok (.ireturn, 1) := by decide +kernel
theorem dX7_see_15 : decode cX7_see 15 = .ok (.iload_n 2, 1) := by decide +kernel
theorem dX7_see_16 : decode cX7_see 16 = .ok (.i2l, 1) := by decide +kernel
theorem dX7_see_17 : decode cX7_see 17 = .ok (.lconst 0, 1) := by decide +kernel
theorem dX7_see_18 : decode cX7_see 18 = .ok (.ldc2_w 177, 3) := by decide +kernel
theorem dX7_see_21 : decode cX7_see 21 = .ok (.invokestatic 78, 3) := by decide +kernel
theorem dX7_see_24 : decode cX7_see 24 = .ok (.ifCond .ne 6, 3) := by decide +kernel
theorem dX7_see_27 : decode cX7_see 27 = .ok (.bipush (-2), 2) := by decide +kernel
theorem dX7_see_29 : decode cX7_see 29 = .ok (.ireturn, 1) := by decide +kernel
theorem dX7_see_30 : decode cX7_see 30 = .ok (.aload_n 0, 1) := by decide +kernel
theorem dX7_see_31 : decode cX7_see 31 = .ok (.getfield 161, 3) := by decide +kernel
theorem dX7_see_34 : decode cX7_see 34 = .ok (.bipush 6, 2) := by decide +kernel
theorem dX7_see_36 : decode cX7_see 36 = .ok (.if_icmp .ne 6, 3) := by decide +kernel
theorem dX7_see_39 : decode cX7_see 39 = .ok (.bipush (-4), 2) := by decide +kernel
theorem dX7_see_41 : decode cX7_see 41 = .ok (.ireturn, 1) := by decide +kernel
theorem dX7_see_42 : decode cX7_see 42 = .ok (.aload_n 0, 1) := by decide +kernel
theorem dX7_see_43 : decode cX7_see 43 = .ok (.getfield 50, 3) := by decide +kernel
theorem dX7_see_46 : decode cX7_see 46 = .ok (.aload_n 0, 1) := by decide +kernel
theorem dX7_see_47 : decode cX7_see 47 = .ok (.getfield 161, 3) := by decide +kernel
theorem dX7_see_50 : decode cX7_see 50 = .ok (.iload_n 1, 1) := by decide +kernel
theorem dX7_see_51 : decode cX7_see 51 = .ok (.iastore, 1) := by decide +kernel
theorem dX7_see_52 : decode cX7_see 52 = .ok (.aload_n 0, 1) := by decide +kernel
theorem dX7_see_53 : decode cX7_see 53 = .ok (.getfield 53, 3) := by decide +kernel
theorem dX7_see_56 : decode cX7_see 56 = .ok (.aload_n 0, 1) := by decide +kernel
theorem dX7_see_57 : decode cX7_see 57 = .ok (.getfield 161, 3) := by decide +kernel
theorem dX7_see_60 : decode cX7_see 60 = .ok (.iload_n 2, 1) := by decide +kernel
theorem dX7_see_61 : decode cX7_see 61 = .ok (.iastore, 1) := by decide +kernel
theorem dX7_see_62 : decode cX7_see 62 = .ok (.aload_n 0, 1) := by decide +kernel
theorem dX7_see_63 : decode cX7_see 63 = .ok (.dup, 1) := by decide +kernel
theorem dX7_see_64 : decode cX7_see 64 = .ok (.getfield 161, 3) := by decide +kernel
theorem dX7_see_67 : decode cX7_see 67 = .ok (.iconst 1, 1) := by decide +kernel
theorem dX7_see_68 : decode cX7_see 68 = .ok (.iadd, 1) := by decide +kernel
theorem dX7_see_69 : decode cX7_see 69 = .ok (.putfield 161, 3) := by decide +kernel
theorem dX7_see_72 : decode cX7_see 72 = .ok (.aload_n 0, 1) := by decide +kernel
theorem dX7_see_73 : decode cX7_see 73 = .ok (.getfield 161, 3) := by decide +kernel
theorem dX7_see_76 : decode cX7_see 76 = .ok (.ireturn, 1) := by decide +kernel
theorem dX7_unsee_0 : decode cX7_unsee 0 = .ok (.aload_n 0, 1) := by decide +kernel
theorem dX7_unsee_1 : decode cX7_unsee 1 = .ok (.iconst 0, 1) := by decide +kernel
theorem dX7_unsee_2 : decode cX7_unsee 2 = .ok (.putfield 71, 3) := by decide +kernel
theorem dX7_unsee_5 : decode cX7_unsee 5 = .ok (.aload_n 0, 1) := by decide +kernel
theorem dX7_unsee_6 : decode cX7_unsee 6 = .ok (.getfield 161, 3) := by decide +kernel
theorem dX7_unsee_9 : decode cX7_unsee 9 = .ok (.istore_n 1, 1) := by decide +kernel
theorem dX7_unsee_10 : decode cX7_unsee 10 = .ok (.aload_n 0, 1) := by decide +kernel
theorem dX7_unsee_11 : decode cX7_unsee 11 = .ok (.iconst 0, 1) := by decide +kernel
theorem dX7_unsee_12 : decode cX7_unsee 12 = .ok (.putfield 161, 3) := by decide +kernel
theorem dX7_unsee_15 : decode cX7_unsee 15 = .ok (.iload_n 1, 1) := by decide +kernel
theorem dX7_unsee_16 : decode cX7_unsee 16 = .ok (.ireturn, 1) := by decide +kernel
set_option maxRecDepth 20000 in
theorem ggX7_meant_X7_noContract : GoodIn wsX7_meant wsX7_noContract := goodIn_r _ [10, 11, 12, 13, 9, 14, 23, 24, 25, 26, 27, 28, 29, 30, 31, 32, 33, 34, 35, 36, 37, 38, 39, 40, 41, 42, 43, 44, 45, 46, 47, 48, 49, 50, 51, 52, 53, 54, 55, 56] (by decide +kernel) (by decide +kernel)
set_option maxRecDepth 20000 in
theorem gX7_meant_X7_noContract : GoodIn wsX7_meant (wsV RX7 164 RX7 yX7_noContract wsX7_noContract) := goodIn_app (goodIn_of _ (by decide +kernel)) ggX7_meant_X7_noContract
set_option maxRecDepth 20000 in
theorem ggX7_meant_X7_endOf : GoodIn wsX7_meant wsX7_endOf := goodIn_r _ [18, 19, 20, 21, 9, 22, 23, 24, 25, 26, 27, 28, 29, 30, 31, 32, 33, 34, 35, 36, 37, 38, 39, 40, 41, 42, 43, 44, 45, 46, 47, 48, 49, 50, 51, 52, 53, 54, 55, 56] (by decide +kernel) (by decide +kernel)
set_option maxRecDepth 20000 in
theorem gX7_meant_X7_endOf : GoodIn wsX7_meant (wsV RX7 146 RX7 yX7_endOf wsX7_endOf) := goodIn_app (goodIn_of _ (by decide +kernel)) ggX7_meant_X7_endOf
set_option maxRecDepth 20000 in
theorem ggX7_meant_X7_at : GoodIn wsX7_meant wsX7_at := goodIn_r _ [22] (by decide +kernel) (by decide +kernel)
set_option maxRecDepth 20000 in
theorem gX7_meant_X7_at : GoodIn wsX7_meant (va_wsS RX7 143 yX7_at wsX7_at) := goodIn_app (goodIn_of _ (by decide +kernel)) ggX7_meant_X7_at
theorem dX7_meant_0 : decode cX7_meant 0 = .ok (.aload_n 0, 1) := by decide +kernel
theorem dX7_meant_1 : decode cX7_meant 1 = .ok (.iconst 0, 1) := by decide +kernel
theorem dX7_meant_2 : decode cX7_meant 2 = .ok (.putfield 71, 3) := by decide +kernel
theorem dX7_meant_5 : decode cX7_meant 5 = .ok (.aload_n 0, 1) := by decide +kernel
theorem dX7_meant_6 : decode cX7_meant 6 = .ok (.iload_n 1, 1) := by decide +kernel
theorem dX7_meant_7 : decode cX7_meant 7 = .ok (.invokevirtual 164, 3) := by decide +kernel
theorem dX7_meant_10 : decode cX7_meant 10 = .ok (.ifCond .eq 5, 3) := by decide +kernel
theorem dX7_meant_13 : decode cX7_meant 13 = .ok (.iconst (-1), 1) := by decide +kernel
theorem dX7_meant_14 : decode cX7_meant 14 = .ok (.ireturn, 1) := by decide +kernel
theorem dX7_meant_15 : decode cX7_meant 15 = .ok (.iconst 0, 1) := by decide +kernel
theorem dX7_meant_16 : decode cX7_meant 16 = .ok (.istore_n 2, 1) := by decide +kernel
theorem dX7_meant_17 : decode cX7_meant 17 = .ok (.iconst 0, 1) := by decide +kernel
theorem dX7_meant_18 : decode cX7_meant 18 = .ok (.istore_n 3, 1) := by decide +kernel
theorem dX7_meant_19 : decode cX7_meant 19 = .ok (.iload_n 3, 1) := by decide +kernel
theorem dX7_meant_20 : decode cX7_meant 20 = .ok (.iconst 2, 1) := by decide +kernel
theorem dX7_meant_21 : decode cX7_meant 21 = .ok (.if_icmp .ge 112, 3) := by decide +kernel
theorem dX7_meant_24 : decode cX7_meant 24 = .ok (.aload_n 0, 1) := by decide +kernel
theorem dX7_meant_25 : decode cX7_meant 25 = .ok (.iload_n 1, 1) := by decide +kernel
theorem dX7_meant_26 : decode cX7_meant 26 = .ok (.aload_n 0, 1) := by decide +kernel
theorem dX7_meant_27 : decode cX7_meant 27 = .ok (.getfield 37, 3) := by decide +kernel
theorem dX7_meant_30 : decode cX7_meant 30 = .ok (.iconst 0, 1) := by decide +kernel
theorem dX7_meant_31 : decode cX7_meant 31 = .ok (.iaload, 1) := by decide +kernel
theorem dX7_meant_32 : decode cX7_meant 32 = .ok (.iload_n 3, 1) := by decide +kernel
theorem dX7_meant_33 : decode cX7_meant 33 = .ok (.aload_n 0, 1) := by decide +kernel
theorem dX7_meant_34 : decode cX7_meant 34 = .ok (.getfield 37, 3) := by decide +kernel
theorem dX7_meant_37 : decode cX7_meant 37 = .ok (.bipush 7, 2) := by decide +kernel
theorem dX7_meant_39 : decode cX7_meant 39 = .ok (.iload_n 1, 1) := by decide +kernel
theorem dX7_meant_40 : decode cX7_meant 40 = .ok (.iadd, 1) := by decide +kernel
theorem dX7_meant_41 : decode cX7_meant 41 = .ok (.iaload, 1) := by decide +kernel
theorem dX7_meant_42 : decode cX7_meant 42 = .ok (.invokevirtual 146, 3) := by decide +kernel
theorem dX7_meant_45 : decode cX7_meant 45 = .ok (.istore 4, 2) := by decide +kernel
theorem dX7_meant_47 : decode cX7_meant 47 = .ok (.iconst 1, 1) := by decide +kernel
theorem dX7_meant_48 : decode cX7_meant 48 = .ok (.istore 5, 2) := by decide +kernel
theorem dX7_meant_50 : decode cX7_meant 50 = .ok (.iconst 0, 1) := by decide +kernel
theorem dX7_meant_51 : decode cX7_meant 51 = .ok (.istore 6, 2) := by decide +kernel
theorem dX7_meant_53 : decode cX7_meant 53 = .ok (.iload 6, 2) := by decide +kernel
theorem dX7_meant_55 : decode cX7_meant 55 = .ok (.aload_n 0, 1) := by decide +kernel
theorem dX7_meant_56 : decode cX7_meant 56 = .ok (.getfield 161, 3) := by decide +kernel
theorem dX7_meant_59 : decode cX7_meant 59 = .ok (.if_icmp .ge 53, 3) := by decide +kernel
theorem dX7_meant_62 : decode cX7_meant 62 = .ok (.iload 5, 2) := by decide +kernel
theorem dX7_meant_64 : decode cX7_meant 64 = .ok (.ifCond .eq 48, 3) := by decide +kernel
theorem dX7_meant_67 : decode cX7_meant 67 = .ok (.aload_n 0, 1) := by decide +kernel
theorem dX7_meant_68 : decode cX7_meant 68 = .ok (.getfield 50, 3) := by decide +kernel
theorem dX7_meant_71 : decode cX7_meant 71 = .ok (.iload 6, 2) := by decide +kernel
theorem dX7_meant_73 : decode cX7_meant 73 = .ok (.iaload, 1) := by decide +kernel
theorem dX7_meant_74 : decode cX7_meant 74 = .ok (.iload_n 1, 1) := by decide +kernel
theorem dX7_meant_75 : decode cX7_meant 75 = .ok (.if_icmp .ne 24, 3) := by decide +kernel
theorem dX7_meant_78 : decode cX7_meant 78 = .ok (.aload_n 0, 1) := by decide +kernel
theorem dX7_meant_79 : decode cX7_meant 79 = .ok (.getfield 53, 3) := by decide +kernel
theorem dX7_meant_82 : decode cX7_meant 82 = .ok (.iload 6, 2) := by decide +kernel
theorem dX7_meant_84 : decode cX7_meant 84 = .ok (.iaload, 1) := by decide +kernel
theorem dX7_meant_85 : decode cX7_meant 85 = .ok (.aload_n 0, 1) := by decide +kernel
theorem dX7_meant_86 : decode cX7_meant 86 = .ok (.getfield 37, 3) := by decide +kernel
theorem dX7_meant_89 : decode cX7_meant 89 = .ok (.iconst 0, 1) := by decide +kernel
theorem dX7_meant_90 : decode cX7_meant 90 = .ok (.iaload, 1) := by decide +kernel
theorem dX7_meant_91 : decode cX7_meant 91 = .ok (.invokestatic 143, 3) := by decide +kernel
theorem dX7_meant_94 : decode cX7_meant 94 = .ok (.iload 4, 2) := by decide +kernel
theorem dX7_meant_96 : decode cX7_meant 96 = .ok (.if_icmp .ne 7, 3) := by decide +kernel
theorem dX7_meant_99 : decode cX7_meant 99 = .ok (.iconst 1, 1) := by decide +kernel
theorem dX7_meant_100 : decode cX7_meant 100 = .ok (.goto 4, 3) := by decide +kernel
theorem dX7_meant_103 : decode cX7_meant 103 = .ok (.iconst 0, 1) := by decide +kernel
theorem dX7_meant_104 : decode cX7_meant 104 = .ok (.istore 5, 2) := by decide +kernel
theorem dX7_meant_106 : decode cX7_meant 106 = .ok (.iinc 6 1, 3) := by decide +kernel
theorem dX7_meant_109 : decode cX7_meant 109 = .ok (.goto (-56), 3) := by decide +kernel
theorem dX7_meant_112 : decode cX7_meant 112 = .ok (.iload_n 2, 1) := by decide +kernel
theorem dX7_meant_113 : decode cX7_meant 113 = .ok (.iload 5, 2) := by decide +kernel
theorem dX7_meant_115 : decode cX7_meant 115 = .ok (.ifCond .eq 9, 3) := by decide +kernel
theorem dX7_meant_118 : decode cX7_meant 118 = .ok (.iconst 1, 1) := by decide +kernel
theorem dX7_meant_119 : decode cX7_meant 119 = .ok (.iload_n 3, 1) := by decide +kernel
theorem dX7_meant_120 : decode cX7_meant 120 = .ok (.ishl, 1) := by decide +kernel
theorem dX7_meant_121 : decode cX7_meant 121 = .ok (.goto 4, 3) := by decide +kernel
theorem dX7_meant_124 : decode cX7_meant 124 = .ok (.iconst 0, 1) := by decide +kernel
theorem dX7_meant_125 : decode cX7_meant 125 = .ok (.ior, 1) := by decide +kernel
theorem dX7_meant_126 : decode cX7_meant 126 = .ok (.istore_n 2, 1) := by decide +kernel
theorem dX7_meant_127 : decode cX7_meant 127 = .ok (.iinc 3 1, 3) := by decide +kernel
theorem dX7_meant_130 : decode cX7_meant 130 = .ok (.goto (-111), 3) := by decide +kernel
theorem dX7_meant_133 : decode cX7_meant 133 = .ok (.iload_n 2, 1) := by decide +kernel
theorem dX7_meant_134 : decode cX7_meant 134 = .ok (.ireturn, 1) := by decide +kernel
set_option maxRecDepth 20000 in
theorem ggX7_ofAge_X7_in : GoodIn wsX7_ofAge wsX7_in := goodIn_r _ [7] (by decide +kernel) (by decide +kernel)
set_option maxRecDepth 20000 in
theorem gX7_ofAge_X7_in : GoodIn wsX7_ofAge (va_wsS RX7 78 yX7_in wsX7_in) := goodIn_app (goodIn_of _ (by decide +kernel)) ggX7_ofAge_X7_in
set_option maxRecDepth 20000 in
theorem ggX7_ofAge_X7_noPlace : GoodIn wsX7_ofAge wsX7_noPlace := goodIn_r _ [10, 11, 4, 5, 6, 7] (by decide +kernel) (by decide +kernel)
set_option maxRecDepth 20000 in
theorem gX7_ofAge_X7_noPlace : GoodIn wsX7_ofAge (va_wsS RX7 168 yX7_noPlace wsX7_noPlace) := goodIn_app (goodIn_of _ (by decide +kernel)) ggX7_ofAge_X7_noPlace
set_option maxRecDepth 20000 in
theorem ggX7_ofAge_X7_at : GoodIn wsX7_ofAge wsX7_at := goodIn_r _ [14] (by decide +kernel) (by decide +kernel)
set_option maxRecDepth 20000 in
theorem gX7_ofAge_X7_at : GoodIn wsX7_ofAge (va_wsS RX7 143 yX7_at wsX7_at) := goodIn_app (goodIn_of _ (by decide +kernel)) ggX7_ofAge_X7_at
theorem dX7_ofAge_0 : decode cX7_ofAge 0 = .ok (.aload_n 0, 1) := by decide +kernel
theorem dX7_ofAge_1 : decode cX7_ofAge 1 = .ok (.iconst 0, 1) := by decide +kernel
theorem dX7_ofAge_2 : decode cX7_ofAge 2 = .ok (.putfield 71, 3) := by decide +kernel
theorem dX7_ofAge_5 : decode cX7_ofAge 5 = .ok (.iload_n 1, 1) := by decide +kernel
theorem dX7_ofAge_6 : decode cX7_ofAge 6 = .ok (.i2l, 1) := by decide +kernel
theorem dX7_ofAge_7 : decode cX7_ofAge 7 = .ok (.lconst 0, 1) := by decide +kernel
theorem dX7_ofAge_8 : decode cX7_ofAge 8 = .ok (.aload_n 0, 1) := by decide +kernel
theorem dX7_ofAge_9 : decode cX7_ofAge 9 = .ok (.getfield 131, 3) := by decide +kernel
theorem dX7_ofAge_12 : decode cX7_ofAge 12 = .ok (.iconst 1, 1) := by decide +kernel
theorem dX7_ofAge_13 : decode cX7_ofAge 13 = .ok (.isub, 1) := by decide +kernel
theorem dX7_ofAge_14 : decode cX7_ofAge 14 = .ok (.i2l, 1) := by decide +kernel
theorem dX7_ofAge_15 : decode cX7_ofAge 15 = .ok (.invokestatic 78, 3) := by decide +kernel
theorem dX7_ofAge_18 : decode cX7_ofAge 18 = .ok (.ifCond .ne 5, 3) := by decide +kernel
theorem dX7_ofAge_21 : decode cX7_ofAge 21 = .ok (.iconst (-1), 1) := by decide +kernel
theorem dX7_ofAge_22 : decode cX7_ofAge 22 = .ok (.ireturn, 1) := by decide +kernel
theorem dX7_ofAge_23 : decode cX7_ofAge 23 = .ok (.iload_n 2, 1) := by decide +kernel
theorem dX7_ofAge_24 : decode cX7_ofAge 24 = .ok (.invokestatic 168, 3) := by decide +kernel
theorem dX7_ofAge_27 : decode cX7_ofAge 27 = .ok (.ifCond .eq 6, 3) := by decide +kernel
theorem dX7_ofAge_30 : decode cX7_ofAge 30 = .ok (.bipush (-2), 2) := by decide +kernel
theorem dX7_ofAge_32 : decode cX7_ofAge 32 = .ok (.ireturn, 1) := by decide +kernel
theorem dX7_ofAge_33 : decode cX7_ofAge 33 = .ok (.aload_n 0, 1) := by decide +kernel
theorem dX7_ofAge_34 : decode cX7_ofAge 34 = .ok (.getfield 16, 3) := by decide +kernel
theorem dX7_ofAge_37 : decode cX7_ofAge 37 = .ok (.iconst 2, 1) := by decide +kernel
theorem dX7_ofAge_38 : decode cX7_ofAge 38 = .ok (.iload_n 1, 1) := by decide +kernel
theorem dX7_ofAge_39 : decode cX7_ofAge 39 = .ok (.imul, 1) := by decide +kernel
theorem dX7_ofAge_40 : decode cX7_ofAge 40 = .ok (.iaload, 1) := by decide +kernel
theorem dX7_ofAge_41 : decode cX7_ofAge 41 = .ok (.iload_n 2, 1) := by decide +kernel
theorem dX7_ofAge_42 : decode cX7_ofAge 42 = .ok (.invokestatic 143, 3) := by decide +kernel
theorem dX7_ofAge_45 : decode cX7_ofAge 45 = .ok (.aload_n 0, 1) := by decide +kernel
theorem dX7_ofAge_46 : decode cX7_ofAge 46 = .ok (.getfield 16, 3) := by decide +kernel
theorem dX7_ofAge_49 : decode cX7_ofAge 49 = .ok (.iconst 2, 1) := by decide +kernel
theorem dX7_ofAge_50 : decode cX7_ofAge 50 = .ok (.iload_n 1, 1) := by decide +kernel
theorem dX7_ofAge_51 : decode cX7_ofAge 51 = .ok (.imul, 1) := by decide +kernel
theorem dX7_ofAge_52 : decode cX7_ofAge 52 = .ok (.iconst 1, 1) := by decide +kernel
theorem dX7_ofAge_53 : decode cX7_ofAge 53 = .ok (.iadd, 1) := by decide +kernel
theorem dX7_ofAge_54 : decode cX7_ofAge 54 = .ok (.iaload, 1) := by decide +kernel
theorem dX7_ofAge_55 : decode cX7_ofAge 55 = .ok (.iadd, 1) := by decide +kernel
theorem dX7_ofAge_56 : decode cX7_ofAge 56 = .ok (.istore_n 3, 1) := by decide +kernel
theorem dX7_ofAge_57 : decode cX7_ofAge 57 = .ok (.iload_n 2, 1) := by decide +kernel
theorem dX7_ofAge_58 : decode cX7_ofAge 58 = .ok (.bipush 13, 2) := by decide +kernel
theorem dX7_ofAge_60 : decode cX7_ofAge 60 = .ok (.if_icmp .ge 11, 3) := by decide +kernel
theorem dX7_ofAge_63 : decode cX7_ofAge 63 = .ok (.iload_n 3, 1) := by decide +kernel
theorem dX7_ofAge_64 : decode cX7_ofAge 64 = .ok (.iload_n 2, 1) := by decide +kernel
theorem dX7_ofAge_65 : decode cX7_ofAge 65 = .ok (.if_icmp .ne 6, 3) := by decide +kernel
theorem dX7_ofAge_68 : decode cX7_ofAge 68 = .ok (.bipush 12, 2) := by decide +kernel
theorem dX7_ofAge_70 : decode cX7_ofAge 70 = .ok (.ireturn, 1) := by decide +kernel
theorem dX7_ofAge_71 : decode cX7_ofAge 71 = .ok (.iload_n 2, 1) := by decide +kernel
theorem dX7_ofAge_72 : decode cX7_ofAge 72 = .ok (.bipush 13, 2) := by decide +kernel
theorem dX7_ofAge_74 : decode cX7_ofAge 74 = .ok (.if_icmp .ge 14, 3) := by decide +kernel
theorem dX7_ofAge_77 : decode cX7_ofAge 77 = .ok (.iload_n 3, 1) := by decide +kernel
theorem dX7_ofAge_78 : decode cX7_ofAge 78 = .ok (.iload_n 2, 1) := by decide +kernel
theorem dX7_ofAge_79 : decode cX7_ofAge 79 = .ok (.if_icmp .le 9, 3) := by decide +kernel
theorem dX7_ofAge_82 : decode cX7_ofAge 82 = .ok (.iload_n 3, 1) := by decide +kernel
theorem dX7_ofAge_83 : decode cX7_ofAge 83 = .ok (.iconst 1, 1) := by decide +kernel
theorem dX7_ofAge_84 : decode cX7_ofAge 84 = .ok (.isub, 1) := by decide +kernel
theorem dX7_ofAge_85 : decode cX7_ofAge 85 = .ok (.goto 4, 3) := by decide +kernel
theorem dX7_ofAge_88 : decode cX7_ofAge 88 = .ok (.iload_n 3, 1) := by decide +kernel
theorem dX7_ofAge_89 : decode cX7_ofAge 89 = .ok (.istore 4, 2) := by decide +kernel
theorem dX7_ofAge_91 : decode cX7_ofAge 91 = .ok (.iload 4, 2) := by decide +kernel
theorem dX7_ofAge_93 : decode cX7_ofAge 93 = .ok (.bipush 12, 2) := by decide +kernel
theorem dX7_ofAge_95 : decode cX7_ofAge 95 = .ok (.if_icmp .ge 8, 3) := by decide +kernel
theorem dX7_ofAge_98 : decode cX7_ofAge 98 = .ok (.iload 4, 2) := by decide +kernel
theorem dX7_ofAge_100 : decode cX7_ofAge 100 = .ok (.goto 5, 3) := by decide +kernel
theorem dX7_ofAge_103 : decode cX7_ofAge 103 = .ok (.bipush 13, 2) := by decide +kernel
theorem dX7_ofAge_105 : decode cX7_ofAge 105 = .ok (.ireturn, 1) := by decide +kernel
set_option maxRecDepth 20000 in
theorem ggX7_agree_X7_in : GoodIn wsX7_agree wsX7_in := goodIn_r _ [8] (by decide +kernel) (by decide +kernel)
set_option maxRecDepth 20000 in
theorem gX7_agree_X7_in : GoodIn wsX7_agree (va_wsS RX7 78 yX7_in wsX7_in) := goodIn_app (goodIn_of _ (by decide +kernel)) ggX7_agree_X7_in
set_option maxRecDepth 20000 in
theorem ggX7_agree_X7_noPlace : GoodIn wsX7_agree wsX7_noPlace := goodIn_r _ [11, 12, 5, 6, 7, 8] (by decide +kernel) (by decide +kernel)
set_option maxRecDepth 20000 in
theorem gX7_agree_X7_noPlace : GoodIn wsX7_agree (va_wsS RX7 168 yX7_noPlace wsX7_noPlace) := goodIn_app (goodIn_of _ (by decide +kernel)) ggX7_agree_X7_noPlace
set_option maxRecDepth 20000 in
theorem ggX7_agree_X7_at : GoodIn wsX7_agree wsX7_at := goodIn_r _ [15] (by decide +kernel) (by decide +kernel)
set_option maxRecDepth 20000 in
theorem gX7_agree_X7_at : GoodIn wsX7_agree (va_wsS RX7 143 yX7_at wsX7_at) := goodIn_app (goodIn_of _ (by decide +kernel)) ggX7_agree_X7_at
theorem dX7_agree_0 : decode cX7_agree 0 = .ok (.aload_n 0, 1) := by decide +kernel
theorem dX7_agree_1 : decode cX7_agree 1 = .ok (.iconst 0, 1) := by decide +kernel
theorem dX7_agree_2 : decode cX7_agree 2 = .ok (.putfield 71, 3) := by decide +kernel
theorem dX7_agree_5 : decode cX7_agree 5 = .ok (.iload_n 1, 1) := by decide +kernel
theorem dX7_agree_6 : decode cX7_agree 6 = .ok (.i2l, 1) := by decide +kernel
theorem dX7_agree_7 : decode cX7_agree 7 = .ok (.lconst 0, 1) := by decide +kernel
theorem dX7_agree_8 : decode cX7_agree 8 = .ok (.ldc2_w 177, 3) := by decide +kernel
theorem dX7_agree_11 : decode cX7_agree 11 = .ok (.invokestatic 78, 3) := by decide +kernel
theorem dX7_agree_14 : decode cX7_agree 14 = .ok (.ifCond .eq 10, 3) := by decide +kernel
theorem dX7_agree_17 : decode cX7_agree 17 = .ok (.iload_n 2, 1) := by decide +kernel
theorem dX7_agree_18 : decode cX7_agree 18 = .ok (.invokestatic 168, 3) := by decide +kernel
theorem dX7_agree_21 : decode cX7_agree 21 = .ok (.ifCond .eq 6, 3) := by decide +kernel
theorem dX7_agree_24 : decode cX7_agree 24 = .ok (.bipush (-2), 2) := by decide +kernel
theorem dX7_agree_26 : decode cX7_agree 26 = .ok (.ireturn, 1) := by decide +kernel
theorem dX7_agree_27 : decode cX7_agree 27 = .ok (.iload_n 1, 1) := by decide +kernel
theorem dX7_agree_28 : decode cX7_agree 28 = .ok (.iload_n 2, 1) := by decide +kernel
theorem dX7_agree_29 : decode cX7_agree 29 = .ok (.invokestatic 143, 3) := by decide +kernel
theorem dX7_agree_32 : decode cX7_agree 32 = .ok (.istore_n 3, 1) := by decide +kernel
theorem dX7_agree_33 : decode cX7_agree 33 = .ok (.iconst 0, 1) := by decide +kernel
theorem dX7_agree_34 : decode cX7_agree 34 = .ok (.istore 4, 2) := by decide +kernel
theorem dX7_agree_36 : decode cX7_agree 36 = .ok (.iconst 0, 1) := by decide +kernel
theorem dX7_agree_37 : decode cX7_agree 37 = .ok (.istore 5, 2) := by decide +kernel
theorem dX7_agree_39 : decode cX7_agree 39 = .ok (.iload 5, 2) := by decide +kernel
theorem dX7_agree_41 : decode cX7_agree 41 = .ok (.aload_n 0, 1) := by decide +kernel
theorem dX7_agree_42 : decode cX7_agree 42 = .ok (.getfield 134, 3) := by decide +kernel
theorem dX7_agree_45 : decode cX7_agree 45 = .ok (.if_icmp .ge 54, 3) := by decide +kernel
theorem dX7_agree_48 : decode cX7_agree 48 = .ok (.iload_n 3, 1) := by decide +kernel
theorem dX7_agree_49 : decode cX7_agree 49 = .ok (.aload_n 0, 1) := by decide +kernel
theorem dX7_agree_50 : decode cX7_agree 50 = .ok (.getfield 19, 3) := by decide +kernel
theorem dX7_agree_53 : decode cX7_agree 53 = .ok (.iconst 2, 1) := by decide +kernel
theorem dX7_agree_54 : decode cX7_agree 54 = .ok (.iload 5, 2) := by decide +kernel
theorem dX7_agree_56 : decode cX7_agree 56 = .ok (.imul, 1) := by decide +kernel
theorem dX7_agree_57 : decode cX7_agree 57 = .ok (.iconst 1, 1) := by decide +kernel
theorem dX7_agree_58 : decode cX7_agree 58 = .ok (.iadd, 1) := by decide +kernel
theorem dX7_agree_59 : decode cX7_agree 59 = .ok (.iaload, 1) := by decide +kernel
theorem dX7_agree_60 : decode cX7_agree 60 = .ok (.isub, 1) := by decide +kernel
theorem dX7_agree_61 : decode cX7_agree 61 = .ok (.istore 6, 2) := by decide +kernel
theorem dX7_agree_63 : decode cX7_agree 63 = .ok (.iload 4, 2) := by decide +kernel
theorem dX7_agree_65 : decode cX7_agree 65 = .ok (.iload 6, 2) := by decide +kernel
theorem dX7_agree_67 : decode cX7_agree 67 = .ok (.ifCond .lt 22, 3) := by decide +kernel
theorem dX7_agree_70 : decode cX7_agree 70 = .ok (.iload 6, 2) := by decide +kernel
theorem dX7_agree_72 : decode cX7_agree 72 = .ok (.aload_n 0, 1) := by decide +kernel
theorem dX7_agree_73 : decode cX7_agree 73 = .ok (.getfield 19, 3) := by decide +kernel
theorem dX7_agree_76 : decode cX7_agree 76 = .ok (.iconst 2, 1) := by decide +kernel
theorem dX7_agree_77 : decode cX7_agree 77 = .ok (.iload 5, 2) := by decide +kernel
theorem dX7_agree_79 : decode cX7_agree 79 = .ok (.imul, 1) := by decide +kernel
theorem dX7_agree_80 : decode cX7_agree 80 = .ok (.iaload, 1) := by decide +kernel
theorem dX7_agree_81 : decode cX7_agree 81 = .ok (.irem, 1) := by decide +kernel
theorem dX7_agree_82 : decode cX7_agree 82 = .ok (.ifCond .ne 7, 3) := by decide +kernel
theorem dX7_agree_85 : decode cX7_agree 85 = .ok (.iconst 1, 1) := by decide +kernel
theorem dX7_agree_86 : decode cX7_agree 86 = .ok (.goto 4, 3) := by decide +kernel
theorem dX7_agree_89 : decode cX7_agree 89 = .ok (.iconst 0, 1) := by decide +kernel
theorem dX7_agree_90 : decode cX7_agree 90 = .ok (.iadd, 1) := by decide +kernel
theorem dX7_agree_91 : decode cX7_agree 91 = .ok (.istore 4, 2) := by decide +kernel
theorem dX7_agree_93 : decode cX7_agree 93 = .ok (.iinc 5 1, 3) := by decide +kernel
theorem dX7_agree_96 : decode cX7_agree 96 = .ok (.goto (-57), 3) := by decide +kernel
theorem dX7_agree_99 : decode cX7_agree 99 = .ok (.iload 4, 2) := by decide +kernel
theorem dX7_agree_101 : decode cX7_agree 101 = .ok (.ireturn, 1) := by decide +kernel
theorem dX7_layNets_0 : decode cX7_layNets 0 = .ok (.iconst 0, 1) := by decide +kernel
theorem dX7_layNets_1 : decode cX7_layNets 1 = .ok (.istore_n 1, 1) := by decide +kernel
theorem dX7_layNets_2 : decode cX7_layNets 2 = .ok (.iload_n 1, 1) := by decide +kernel
theorem dX7_layNets_3 : decode cX7_layNets 3 = .ok (.iconst 4, 1) := by decide +kernel
theorem dX7_layNets_4 : decode cX7_layNets 4 = .ok (.if_icmp .ge 16, 3) := by decide +kernel
theorem dX7_layNets_7 : decode cX7_layNets 7 = .ok (.aload_n 0, 1) := by decide +kernel
theorem dX7_layNets_8 : decode cX7_layNets 8 = .ok (.getfield 56, 3) := by decide +kernel
theorem dX7_layNets_11 : decode cX7_layNets 11 = .ok (.iload_n 1, 1) := by decide +kernel
theorem dX7_layNets_12 : decode cX7_layNets 12 = .ok (.iconst 0, 1) := by decide +kernel
theorem dX7_layNets_13 : decode cX7_layNets 13 = .ok (.iastore, 1) := by decide +kernel
theorem dX7_layNets_14 : decode cX7_layNets 14 = .ok (.iinc 1 1, 3) := by decide +kernel
theorem dX7_layNets_17 : decode cX7_layNets 17 = .ok (.goto (-15), 3) := by decide +kernel
theorem dX7_layNets_20 : decode cX7_layNets 20 = .ok (.iconst 0, 1) := by decide +kernel
theorem dX7_layNets_21 : decode cX7_layNets 21 = .ok (.istore_n 1, 1) := by decide +kernel
theorem dX7_layNets_22 : decode cX7_layNets 22 = .ok (.iload_n 1, 1) := by decide +kernel
theorem dX7_layNets_23 : decode cX7_layNets 23 = .ok (.aload_n 0, 1) := by decide +kernel
theorem dX7_layNets_24 : decode cX7_layNets 24 = .ok (.getfield 137, 3) := by decide +kernel
theorem dX7_layNets_27 : decode cX7_layNets 27 = .ok (.if_icmp .ge 63, 3) := by decide +kernel
theorem dX7_layNets_30 : decode cX7_layNets 30 = .ok (.aload_n 0, 1) := by decide +kernel
theorem dX7_layNets_31 : decode cX7_layNets 31 = .ok (.getfield 56, 3) := by decide +kernel
theorem dX7_layNets_34 : decode cX7_layNets 34 = .ok (.aload_n 0, 1) := by decide +kernel
theorem dX7_layNets_35 : decode cX7_layNets 35 = .ok (.getfield 22, 3) := by decide +kernel
theorem dX7_layNets_38 : decode cX7_layNets 38 = .ok (.iconst 3, 1) := by decide +kernel
theorem dX7_layNets_39 : decode cX7_layNets 39 = .ok (.iload_n 1, 1) := by decide +kernel
theorem dX7_layNets_40 : decode cX7_layNets 40 = .ok (.imul, 1) := by decide +kernel
theorem dX7_layNets_41 : decode cX7_layNets 41 = .ok (.iaload, 1) := by decide +kernel
theorem dX7_layNets_42 : decode cX7_layNets 42 = .ok (.dup2, 1) := by decide +kernel
theorem dX7_layNets_43 : decode cX7_layNets 43 = .ok (.iaload, 1) := by decide +kernel
theorem dX7_layNets_44 : decode cX7_layNets 44 = .ok (.aload_n 0, 1) := by decide +kernel
theorem dX7_layNets_45 : decode cX7_layNets 45 = .ok (.getfield 22, 3) := by decide +kernel
theorem dX7_layNets_48 : decode cX7_layNets 48 = .ok (.iconst 3, 1) := by decide +kernel
theorem dX7_layNets_49 : decode cX7_layNets 49 = .ok (.iload_n 1, 1) := by decide +kernel
theorem dX7_layNets_50 : decode cX7_layNets 50 = .ok (.imul, 1) := by decide +kernel
theorem dX7_layNets_51 : decode cX7_layNets 51 = .ok (.iconst 2, 1) := by decide +kernel
theorem dX7_layNets_52 : decode cX7_layNets 52 = .ok (.iadd, 1) := by decide +kernel
theorem dX7_layNets_53 : decode cX7_layNets 53 = .ok (.iaload, 1) := by decide +kernel
theorem dX7_layNets_54 : decode cX7_layNets 54 = .ok (.isub, 1) := by decide +kernel
theorem dX7_layNets_55 : decode cX7_layNets 55 = .ok (.iastore, 1) := by decide +kernel
theorem dX7_layNets_56 : decode cX7_layNets 56 = .ok (.aload_n 0, 1) := by decide +kernel
theorem dX7_layNets_57 : decode cX7_layNets 57 = .ok (.getfield 56, 3) := by decide +kernel
theorem dX7_layNets_60 : decode cX7_layNets 60 = .ok (.aload_n 0, 1) := by decide +kernel
theorem dX7_layNets_61 : decode cX7_layNets 61 = .ok (.getfield 22, 3) := by decide +kernel
theorem dX7_layNets_64 : decode cX7_layNets 64 = .ok (.iconst 3, 1) := by decide +kernel
theorem dX7_layNets_65 : decode cX7_layNets 65 = .ok (.iload_n 1, 1) := by decide +kernel
theorem dX7_layNets_66 : decode cX7_layNets 66 = .ok (.imul, 1) := by decide +kernel
theorem dX7_layNets_67 : decode cX7_layNets 67 = .ok (.iconst 1, 1) := by decide +kernel
theorem dX7_layNets_68 : decode cX7_layNets 68 = .ok (.iadd, 1) := by decide +kernel
theorem dX7_layNets_69 : decode cX7_layNets 69 = .ok (.iaload, 1) := by decide +kernel
theorem dX7_layNets_70 : decode cX7_layNets 70 = .ok (.dup2, 1) := by decide +kernel
theorem dX7_layNets_71 : decode cX7_layNets 71 = .ok (.iaload, 1) := by decide +kernel
theorem dX7_layNets_72 : decode cX7_layNets 72 = .ok (.aload_n 0, 1) := by decide +kernel
theorem dX7_layNets_73 : decode cX7_layNets 73 = .ok (.getfield 22, 3) := by decide +kernel
theorem dX7_layNets_76 : decode cX7_layNets 76 = .ok (.iconst 3, 1) := by decide +kernel
theorem dX7_layNets_77 : decode cX7_layNets 77 = .ok (.iload_n 1, 1) := by decide +kernel
theorem dX7_layNets_78 : decode cX7_layNets 78 = .ok (.imul, 1) := by decide +kernel
theorem dX7_layNets_79 : decode cX7_layNets 79 = .ok (.iconst 2, 1) := by decide +kernel
theorem dX7_layNets_80 : decode cX7_layNets 80 = .ok (.iadd, 1) := by decide +kernel
theorem dX7_layNets_81 : decode cX7_layNets 81 = .ok (.iaload, 1) := by decide +kernel
theorem dX7_layNets_82 : decode cX7_layNets 82 = .ok (.iadd, 1) := by decide +kernel
theorem dX7_layNets_83 : decode cX7_layNets 83 = .ok (.iastore, 1) := by decide +kernel
theorem dX7_layNets_84 : decode cX7_layNets 84 = .ok (.iinc 1 1, 3) := by decide +kernel
theorem dX7_layNets_87 : decode cX7_layNets 87 = .ok (.goto (-65), 3) := by decide +kernel
theorem dX7_layNets_90 : decode cX7_layNets 90 = .ok (.return_, 1) := by decide +kernel
set_option maxRecDepth 20000 in
theorem ggX7_net_X7_in : GoodIn wsX7_net wsX7_in := goodIn_r _ [7] (by decide +kernel) (by decide +kernel)
set_option maxRecDepth 20000 in
theorem gX7_net_X7_in : GoodIn wsX7_net (va_wsS RX7 78 yX7_in wsX7_in) := goodIn_app (goodIn_of _ (by decide +kernel)) ggX7_net_X7_in
set_option maxRecDepth 20000 in
theorem ggX7_net_X7_layNets : GoodIn wsX7_net wsX7_layNets := goodIn_r _ [11, 3, 12, 13, 14, 15, 16, 17, 18, 19, 20, 21, 22, 23, 24, 25, 26, 27, 28, 29, 30, 31, 32, 33, 34, 35, 36, 37, 38, 39, 40, 41, 42, 43, 44, 45, 46, 47] (by decide +kernel) (by decide +kernel)
set_option maxRecDepth 20000 in
theorem gX7_net_X7_layNets : GoodIn wsX7_net (wsV RX7 181 RX7 yX7_layNets wsX7_layNets) := goodIn_app (goodIn_of _ (by decide +kernel)) ggX7_net_X7_layNets
theorem dX7_net_0 : decode cX7_net 0 = .ok (.aload_n 0, 1) := by decide +kernel
theorem dX7_net_1 : decode cX7_net 1 = .ok (.iconst 0, 1) := by decide +kernel
theorem dX7_net_2 : decode cX7_net 2 = .ok (.putfield 71, 3) := by decide +kernel
theorem dX7_net_5 : decode cX7_net 5 = .ok (.iload_n 1, 1) := by decide +kernel
theorem dX7_net_6 : decode cX7_net 6 = .ok (.i2l, 1) := by decide +kernel
theorem dX7_net_7 : decode cX7_net 7 = .ok (.lconst 0, 1) := by decide +kernel
theorem dX7_net_8 : decode cX7_net 8 = .ok (.ldc2_w 179, 3) := by decide +kernel
theorem dX7_net_11 : decode cX7_net 11 = .ok (.invokestatic 78, 3) := by decide +kernel
theorem dX7_net_14 : decode cX7_net 14 = .ok (.ifCond .ne 5, 3) := by decide +kernel
theorem dX7_net_17 : decode cX7_net 17 = .ok (.iconst (-1), 1) := by decide +kernel
theorem dX7_net_18 : decode cX7_net 18 = .ok (.ireturn, 1) := by decide +kernel
theorem dX7_net_19 : decode cX7_net 19 = .ok (.aload_n 0, 1) := by decide +kernel
theorem dX7_net_20 : decode cX7_net 20 = .ok (.invokevirtual 181, 3) := by decide +kernel
theorem dX7_net_23 : decode cX7_net 23 = .ok (.bipush 100, 2) := by decide +kernel
theorem dX7_net_25 : decode cX7_net 25 = .ok (.aload_n 0, 1) := by decide +kernel
theorem dX7_net_26 : decode cX7_net 26 = .ok (.getfield 56, 3) := by decide +kernel
theorem dX7_net_29 : decode cX7_net 29 = .ok (.iload_n 1, 1) := by decide +kernel
theorem dX7_net_30 : decode cX7_net 30 = .ok (.iaload, 1) := by decide +kernel
theorem dX7_net_31 : decode cX7_net 31 = .ok (.iadd, 1) := by decide +kernel
theorem dX7_net_32 : decode cX7_net 32 = .ok (.ireturn, 1) := by decide +kernel
set_option maxRecDepth 20000 in
theorem ggX7_payings_X7_layNets : GoodIn wsX7_payings wsX7_layNets := goodIn_r _ [8, 2, 9, 10, 17, 18, 19, 20, 21, 22, 23, 24, 25, 26, 27, 28, 29, 30, 31, 32, 33, 34, 35, 36, 37, 38, 39, 40, 41, 42, 43, 44, 45, 46, 47, 48, 49, 50] (by decide +kernel) (by decide +kernel)
set_option maxRecDepth 20000 in
theorem gX7_payings_X7_layNets : GoodIn wsX7_payings (wsV RX7 181 RX7 yX7_layNets wsX7_layNets) := goodIn_app (goodIn_of _ (by decide +kernel)) ggX7_payings_X7_layNets
set_option maxRecDepth 20000 in
theorem ggX7_payings_X7_has : GoodIn wsX7_payings wsX7_has := goodIn_r _ [13] (by decide +kernel) (by decide +kernel)
set_option maxRecDepth 20000 in
theorem gX7_payings_X7_has : GoodIn wsX7_payings (va_wsS RX7 150 yX7_has wsX7_has) := goodIn_app (goodIn_of _ (by decide +kernel)) ggX7_payings_X7_has
set_option maxRecDepth 20000 in
theorem ggX7_payings_X7_many : GoodIn wsX7_payings wsX7_many := goodIn_r _ [16] (by decide +kernel) (by decide +kernel)
set_option maxRecDepth 20000 in
theorem gX7_payings_X7_many : GoodIn wsX7_payings (va_wsS RX7 174 yX7_many wsX7_many) := goodIn_app (goodIn_of _ (by decide +kernel)) ggX7_payings_X7_many
theorem dX7_payings_0 : decode cX7_payings 0 = .ok (.aload_n 0, 1) := by decide +kernel
theorem dX7_payings_1 : decode cX7_payings 1 = .ok (.iconst 0, 1) := by decide +kernel
theorem dX7_payings_2 : decode cX7_payings 2 = .ok (.putfield 71, 3) := by decide +kernel
theorem dX7_payings_5 : decode cX7_payings 5 = .ok (.aload_n 0, 1) := by decide +kernel
theorem dX7_payings_6 : decode cX7_payings 6 = .ok (.invokevirtual 181, 3) := by decide +kernel
theorem dX7_payings_9 : decode cX7_payings 9 = .ok (.iconst 0, 1) := by decide +kernel
theorem dX7_payings_10 : decode cX7_payings 10 = .ok (.istore_n 1, 1) := by decide +kernel
theorem dX7_payings_11 : decode cX7_payings 11 = .ok (.iconst 0, 1) := by decide +kernel
theorem dX7_payings_12 : decode cX7_payings 12 = .ok (.istore_n 2, 1) := by decide +kernel
theorem dX7_payings_13 : decode cX7_payings 13 = .ok (.iload_n 2, 1) := by decide +kernel
theorem dX7_payings_14 : decode cX7_payings 14 = .ok (.iconst 4, 1) := by decide +kernel
theorem dX7_payings_15 : decode cX7_payings 15 = .ok (.if_icmp .ge 28, 3) := by decide +kernel
theorem dX7_payings_18 : decode cX7_payings 18 = .ok (.iload_n 1, 1) := by decide +kernel
theorem dX7_payings_19 : decode cX7_payings 19 = .ok (.aload_n 0, 1) := by decide +kernel
theorem dX7_payings_20 : decode cX7_payings 20 = .ok (.getfield 56, 3) := by decide +kernel
theorem dX7_payings_23 : decode cX7_payings 23 = .ok (.iload_n 2, 1) := by decide +kernel
theorem dX7_payings_24 : decode cX7_payings 24 = .ok (.iaload, 1) := by decide +kernel
theorem dX7_payings_25 : decode cX7_payings 25 = .ok (.ifCond .ne 7, 3) := by decide +kernel
theorem dX7_payings_28 : decode cX7_payings 28 = .ok (.iconst 0, 1) := by decide +kernel
theorem dX7_payings_29 : decode cX7_payings 29 = .ok (.goto 6, 3) := by decide +kernel
theorem dX7_payings_32 : decode cX7_payings 32 = .ok (.iconst 1, 1) := by decide +kernel
theorem dX7_payings_33 : decode cX7_payings 33 = .ok (.iload_n 2, 1) := by decide +kernel
theorem dX7_payings_34 : decode cX7_payings 34 = .ok (.ishl, 1) := by decide +kernel
theorem dX7_payings_35 : decode cX7_payings 35 = .ok (.ior, 1) := by decide +kernel
theorem dX7_payings_36 : decode cX7_payings 36 = .ok (.istore_n 1, 1) := by decide +kernel
theorem dX7_payings_37 : decode cX7_payings 37 = .ok (.iinc 2 1, 3) := by decide +kernel
theorem dX7_payings_40 : decode cX7_payings 40 = .ok (.goto (-27), 3) := by decide +kernel
theorem dX7_payings_43 : decode cX7_payings 43 = .ok (.aload_n 0, 1) := by decide +kernel
theorem dX7_payings_44 : decode cX7_payings 44 = .ok (.getfield 59, 3) := by decide +kernel
theorem dX7_payings_47 : decode cX7_payings 47 = .ok (.iconst 0, 1) := by decide +kernel
theorem dX7_payings_48 : decode cX7_payings 48 = .ok (.iconst 0, 1) := by decide +kernel
theorem dX7_payings_49 : decode cX7_payings 49 = .ok (.iastore, 1) := by decide +kernel
theorem dX7_payings_50 : decode cX7_payings 50 = .ok (.iconst 1, 1) := by decide +kernel
theorem dX7_payings_51 : decode cX7_payings 51 = .ok (.istore_n 2, 1) := by decide +kernel
theorem dX7_payings_52 : decode cX7_payings 52 = .ok (.iload_n 2, 1) := by decide +kernel
theorem dX7_payings_53 : decode cX7_payings 53 = .ok (.bipush 16, 2) := by decide +kernel
theorem dX7_payings_55 : decode cX7_payings 55 = .ok (.if_icmp .ge 140, 3) := by decide +kernel
theorem dX7_payings_58 : decode cX7_payings 58 = .ok (.aload_n 0, 1) := by decide +kernel
theorem dX7_payings_59 : decode cX7_payings 59 = .ok (.getfield 59, 3) := by decide +kernel
theorem dX7_payings_62 : decode cX7_payings 62 = .ok (.iload_n 2, 1) := by decide +kernel
theorem dX7_payings_63 : decode cX7_payings 63 = .ok (.bipush (-9), 2) := by decide +kernel
theorem dX7_payings_65 : decode cX7_payings 65 = .ok (.iastore, 1) := by decide +kernel
theorem dX7_payings_66 : decode cX7_payings 66 = .ok (.iconst 1, 1) := by decide +kernel
theorem dX7_payings_67 : decode cX7_payings 67 = .ok (.istore_n 3, 1) := by decide +kernel
theorem dX7_payings_68 : decode cX7_payings 68 = .ok (.iload_n 3, 1) := by decide +kernel
theorem dX7_payings_69 : decode cX7_payings 69 = .ok (.iload_n 2, 1) := by decide +kernel
theorem dX7_payings_70 : decode cX7_payings 70 = .ok (.if_icmp .gt 119, 3) := by decide +kernel
theorem dX7_payings_73 : decode cX7_payings 73 = .ok (.iconst 0, 1) := by decide +kernel
theorem dX7_payings_74 : decode cX7_payings 74 = .ok (.istore 4, 2) := by decide +kernel
theorem dX7_payings_76 : decode cX7_payings 76 = .ok (.iconst 0, 1) := by decide +kernel
theorem dX7_payings_77 : decode cX7_payings 77 = .ok (.istore 5, 2) := by decide +kernel
theorem dX7_payings_79 : decode cX7_payings 79 = .ok (.iload 5, 2) := by decide +kernel
theorem dX7_payings_81 : decode cX7_payings 81 = .ok (.iconst 4, 1) := by decide +kernel
theorem dX7_payings_82 : decode cX7_payings 82 = .ok (.if_icmp .ge 34, 3) := by decide +kernel
theorem dX7_payings_85 : decode cX7_payings 85 = .ok (.iload 4, 2) := by decide +kernel
theorem dX7_payings_87 : decode cX7_payings 87 = .ok (.iload_n 3, 1) := by decide +kernel
theorem dX7_payings_88 : decode cX7_payings 88 = .ok (.iload 5, 2) := by decide +kernel
theorem dX7_payings_90 : decode cX7_payings 90 = .ok (.invokestatic 150, 3) := by decide +kernel
theorem dX7_payings_93 : decode cX7_payings 93 = .ok (.ifCond .eq 13, 3) := by decide +kernel
theorem dX7_payings_96 : decode cX7_payings 96 = .ok (.aload_n 0, 1) := by decide +kernel
theorem dX7_payings_97 : decode cX7_payings 97 = .ok (.getfield 56, 3) := by decide +kernel
theorem dX7_payings_100 : decode cX7_payings 100 = .ok (.iload 5, 2) := by decide +kernel
theorem dX7_payings_102 : decode cX7_payings 102 = .ok (.iaload, 1) := by decide +kernel
theorem dX7_payings_103 : decode cX7_payings 103 = .ok (.goto 4, 3) := by decide +kernel
theorem dX7_payings_106 : decode cX7_payings 106 = .ok (.iconst 0, 1) := by decide +kernel
theorem dX7_payings_107 : decode cX7_payings 107 = .ok (.iadd, 1) := by decide +kernel
theorem dX7_payings_108 : decode cX7_payings 108 = .ok (.istore 4, 2) := by decide +kernel
theorem dX7_payings_110 : decode cX7_payings 110 = .ok (.iinc 5 1, 3) := by decide +kernel
theorem dX7_payings_113 : decode cX7_payings 113 = .ok (.goto (-34), 3) := by decide +kernel
theorem dX7_payings_116 : decode cX7_payings 116 = .ok (.iload_n 3, 1) := by decide +kernel
theorem dX7_payings_117 : decode cX7_payings 117 = .ok (.iload_n 2, 1) := by decide +kernel
theorem dX7_payings_118 : decode cX7_payings 118 = .ok (.iconst (-1), 1) := by decide +kernel
theorem dX7_payings_119 : decode cX7_payings 119 = .ok (.ixor, 1) := by decide +kernel
theorem dX7_payings_120 : decode cX7_payings 120 = .ok (.iand, 1) := by decide +kernel
theorem dX7_payings_121 : decode cX7_payings 121 = .ok (.ifCond .ne 62, 3) := by decide +kernel
theorem dX7_payings_124 : decode cX7_payings 124 = .ok (.iload 4, 2) := by decide +kernel
theorem dX7_payings_126 : decode cX7_payings 126 = .ok (.ifCond .ne 57, 3) := by decide +kernel
theorem dX7_payings_129 : decode cX7_payings 129 = .ok (.aload_n 0, 1) := by decide +kernel
theorem dX7_payings_130 : decode cX7_payings 130 = .ok (.getfield 59, 3) := by decide +kernel
theorem dX7_payings_133 : decode cX7_payings 133 = .ok (.iload_n 2, 1) := by decide +kernel
theorem dX7_payings_134 : decode cX7_payings 134 = .ok (.iload_n 3, 1) := by decide +kernel
theorem dX7_payings_135 : decode cX7_payings 135 = .ok (.iconst (-1), 1) := by decide +kernel
theorem dX7_payings_136 : decode cX7_payings 136 = .ok (.ixor, 1) := by decide +kernel
theorem dX7_payings_137 : decode cX7_payings 137 = .ok (.iand, 1) := by decide +kernel
theorem dX7_payings_138 : decode cX7_payings 138 = .ok (.iaload, 1) := by decide +kernel
theorem dX7_payings_139 : decode cX7_payings 139 = .ok (.bipush (-9), 2) := by decide +kernel
theorem dX7_payings_141 : decode cX7_payings 141 = .ok (.if_icmp .eq 42, 3) := by decide +kernel
theorem dX7_payings_144 : decode cX7_payings 144 = .ok (.aload_n 0, 1) := by decide +kernel
theorem dX7_payings_145 : decode cX7_payings 145 = .ok (.getfield 59, 3) := by decide +kernel
theorem dX7_payings_148 : decode cX7_payings 148 = .ok (.iload_n 2, 1) := by decide +kernel
theorem dX7_payings_149 : decode cX7_payings 149 = .ok (.iload_n 3, 1) := by decide +kernel
theorem dX7_payings_150 : decode cX7_payings 150 = .ok (.iconst (-1), 1) := by decide +kernel
theorem dX7_payings_151 : decode cX7_payings 151 = .ok (.ixor, 1) := by decide +kernel
theorem dX7_payings_152 : decode cX7_payings 152 = .ok (.iand, 1) := by decide +kernel
theorem dX7_payings_153 : decode cX7_payings 153 = .ok (.iaload, 1) := by decide +kernel
theorem dX7_payings_154 : decode cX7_payings 154 = .ok (.iconst 1, 1) := by decide +kernel
theorem dX7_payings_155 : decode cX7_payings 155 = .ok (.iadd, 1) := by decide +kernel
theorem dX7_payings_156 : decode cX7_payings 156 = .ok (.aload_n 0, 1) := by decide +kernel
theorem dX7_payings_157 : decode cX7_payings 157 = .ok (.getfield 59, 3) := by decide +kernel
theorem dX7_payings_160 : decode cX7_payings 160 = .ok (.iload_n 2, 1) := by decide +kernel
theorem dX7_payings_161 : decode cX7_payings 161 = .ok (.iaload, 1) := by decide +kernel
theorem dX7_payings_162 : decode cX7_payings 162 = .ok (.if_icmp .le 21, 3) := by decide +kernel
theorem dX7_payings_165 : decode cX7_payings 165 = .ok (.aload_n 0, 1) := by decide +kernel
theorem dX7_payings_166 : decode cX7_payings 166 = .ok (.getfield 59, 3) := by decide +kernel
theorem dX7_payings_169 : decode cX7_payings 169 = .ok (.iload_n 2, 1) := by decide +kernel
theorem dX7_payings_170 : decode cX7_payings 170 = .ok (.aload_n 0, 1) := by decide +kernel
theorem dX7_payings_171 : decode cX7_payings 171 = .ok (.getfield 59, 3) := by decide +kernel
theorem dX7_payings_174 : decode cX7_payings 174 = .ok (.iload_n 2, 1) := by decide +kernel
theorem dX7_payings_175 : decode cX7_payings 175 = .ok (.iload_n 3, 1) := by decide +kernel
theorem dX7_payings_176 : decode cX7_payings 176 = .ok (.iconst (-1), 1) := by decide +kernel
theorem dX7_payings_177 : decode cX7_payings 177 = .ok (.ixor, 1) := by decide +kernel
theorem dX7_payings_178 : decode cX7_payings 178 = .ok (.iand, 1) := by decide +kernel
theorem dX7_payings_179 : decode cX7_payings 179 = .ok (.iaload, 1) := by decide +kernel
theorem dX7_payings_180 : decode cX7_payings 180 = .ok (.iconst 1, 1) := by decide +kernel
theorem dX7_payings_181 : decode cX7_payings 181 = .ok (.iadd, 1) := by decide +kernel
theorem dX7_payings_182 : decode cX7_payings 182 = .ok (.iastore, 1) := by decide +kernel
theorem dX7_payings_183 : decode cX7_payings 183 = .ok (.iinc 3 1, 3) := by decide +kernel
theorem dX7_payings_186 : decode cX7_payings 186 = .ok (.goto (-118), 3) := by decide +kernel
theorem dX7_payings_189 : decode cX7_payings 189 = .ok (.iinc 2 1, 3) := by decide +kernel
theorem dX7_payings_192 : decode cX7_payings 192 = .ok (.goto (-140), 3) := by decide +kernel
theorem dX7_payings_195 : decode cX7_payings 195 = .ok (.iload_n 1, 1) := by decide +kernel
theorem dX7_payings_196 : decode cX7_payings 196 = .ok (.invokestatic 174, 3) := by decide +kernel
theorem dX7_payings_199 : decode cX7_payings 199 = .ok (.aload_n 0, 1) := by decide +kernel
theorem dX7_payings_200 : decode cX7_payings 200 = .ok (.getfield 59, 3) := by decide +kernel
theorem dX7_payings_203 : decode cX7_payings 203 = .ok (.iload_n 1, 1) := by decide +kernel
theorem dX7_payings_204 : decode cX7_payings 204 = .ok (.iaload, 1) := by decide +kernel
theorem dX7_payings_205 : decode cX7_payings 205 = .ok (.isub, 1) := by decide +kernel
theorem dX7_payings_206 : decode cX7_payings 206 = .ok (.ireturn, 1) := by decide +kernel
theorem dX7_far_0 : decode cX7_far 0 = .ok (.iload_n 0, 1) := by decide +kernel
theorem dX7_far_1 : decode cX7_far 1 = .ok (.iload_n 1, 1) := by decide +kernel
theorem dX7_far_2 : decode cX7_far 2 = .ok (.if_icmp .ge 9, 3) := by decide +kernel
theorem dX7_far_5 : decode cX7_far 5 = .ok (.iload_n 1, 1) := by decide +kernel
theorem dX7_far_6 : decode cX7_far 6 = .ok (.iload_n 0, 1) := by decide +kernel
theorem dX7_far_7 : decode cX7_far 7 = .ok (.isub, 1) := by decide +kernel
theorem dX7_far_8 : decode cX7_far 8 = .ok (.goto 6, 3) := by decide +kernel
theorem dX7_far_11 : decode cX7_far 11 = .ok (.iload_n 0, 1) := by decide +kernel
theorem dX7_far_12 : decode cX7_far 12 = .ok (.iload_n 1, 1) := by decide +kernel
theorem dX7_far_13 : decode cX7_far 13 = .ok (.isub, 1) := by decide +kernel
theorem dX7_far_14 : decode cX7_far 14 = .ok (.ireturn, 1) := by decide +kernel
set_option maxRecDepth 20000 in
theorem ggX7_strike_X7_in : GoodIn wsX7_strike wsX7_in := goodIn_r _ [12] (by decide +kernel) (by decide +kernel)
set_option maxRecDepth 20000 in
theorem gX7_strike_X7_in : GoodIn wsX7_strike (va_wsS RX7 78 yX7_in wsX7_in) := goodIn_app (goodIn_of _ (by decide +kernel)) ggX7_strike_X7_in
set_option maxRecDepth 20000 in
theorem ggX7_strike_X7_many : GoodIn wsX7_strike wsX7_many := goodIn_r _ [15] (by decide +kernel) (by decide +kernel)
set_option maxRecDepth 20000 in
theorem gX7_strike_X7_many : GoodIn wsX7_strike (va_wsS RX7 174 yX7_many wsX7_many) := goodIn_app (goodIn_of _ (by decide +kernel)) ggX7_strike_X7_many
set_option maxRecDepth 20000 in
theorem ggX7_strike_X7_has : GoodIn wsX7_strike wsX7_has := goodIn_r _ [18] (by decide +kernel) (by decide +kernel)
set_option maxRecDepth 20000 in
theorem gX7_strike_X7_has : GoodIn wsX7_strike (va_wsS RX7 150 yX7_has wsX7_has) := goodIn_app (goodIn_of _ (by decide +kernel)) ggX7_strike_X7_has
set_option maxRecDepth 20000 in
theorem ggX7_strike_X7_far : GoodIn wsX7_strike wsX7_far := goodIn_r _ [21] (by decide +kernel) (by decide +kernel)
set_option maxRecDepth 20000 in
theorem gX7_strike_X7_far : GoodIn wsX7_strike (va_wsS RX7 192 yX7_far wsX7_far) := goodIn_app (goodIn_of _ (by decide +kernel)) ggX7_strike_X7_far
theorem dX7_strike_0 : decode cX7_strike 0 = .ok (.aload_n 0, 1) := by decide +kernel
theorem dX7_strike_1 : decode cX7_strike 1 = .ok (.iconst 0, 1) := by decide +kernel
theorem dX7_strike_2 : decode cX7_strike 2 = .ok (.putfield 71, 3) := by decide +kernel
theorem dX7_strike_5 : decode cX7_strike 5 = .ok (.iload_n 1, 1) := by decide +kernel
theorem dX7_strike_6 : decode cX7_strike 6 = .ok (.i2l, 1) := by decide +kernel
theorem dX7_strike_7 : decode cX7_strike 7 = .ok (.lconst 0, 1) := by decide +kernel
theorem dX7_strike_8 : decode cX7_strike 8 = .ok (.ldc2_w 184, 3) := by decide +kernel
theorem dX7_strike_11 : decode cX7_strike 11 = .ok (.invokestatic 78, 3) := by decide +kernel
theorem dX7_strike_14 : decode cX7_strike 14 = .ok (.ifCond .eq 55, 3) := by decide +kernel
theorem dX7_strike_17 : decode cX7_strike 17 = .ok (.iload_n 1, 1) := by decide +kernel
theorem dX7_strike_18 : decode cX7_strike 18 = .ok (.invokestatic 174, 3) := by decide +kernel
theorem dX7_strike_21 : decode cX7_strike 21 = .ok (.i2l, 1) := by decide +kernel
theorem dX7_strike_22 : decode cX7_strike 22 = .ok (.ldc2_w 186, 3) := by decide +kernel
theorem dX7_strike_25 : decode cX7_strike 25 = .ok (.ldc2_w 188, 3) := by decide +kernel
theorem dX7_strike_28 : decode cX7_strike 28 = .ok (.invokestatic 78, 3) := by decide +kernel
theorem dX7_strike_31 : decode cX7_strike 31 = .ok (.ifCond .eq 38, 3) := by decide +kernel
theorem dX7_strike_34 : decode cX7_strike 34 = .ok (.iload_n 2, 1) := by decide +kernel
theorem dX7_strike_35 : decode cX7_strike 35 = .ok (.i2l, 1) := by decide +kernel
theorem dX7_strike_36 : decode cX7_strike 36 = .ok (.lconst 0, 1) := by decide +kernel
theorem dX7_strike_37 : decode cX7_strike 37 = .ok (.ldc2_w 190, 3) := by decide +kernel
theorem dX7_strike_40 : decode cX7_strike 40 = .ok (.invokestatic 78, 3) := by decide +kernel
theorem dX7_strike_43 : decode cX7_strike 43 = .ok (.ifCond .eq 26, 3) := by decide +kernel
theorem dX7_strike_46 : decode cX7_strike 46 = .ok (.iload_n 3, 1) := by decide +kernel
theorem dX7_strike_47 : decode cX7_strike 47 = .ok (.i2l, 1) := by decide +kernel
theorem dX7_strike_48 : decode cX7_strike 48 = .ok (.lconst 0, 1) := by decide +kernel
theorem dX7_strike_49 : decode cX7_strike 49 = .ok (.ldc2_w 190, 3) := by decide +kernel
theorem dX7_strike_52 : decode cX7_strike 52 = .ok (.invokestatic 78, 3) := by decide +kernel
theorem dX7_strike_55 : decode cX7_strike 55 = .ok (.ifCond .eq 14, 3) := by decide +kernel
theorem dX7_strike_58 : decode cX7_strike 58 = .ok (.iload 4, 2) := by decide +kernel
theorem dX7_strike_60 : decode cX7_strike 60 = .ok (.i2l, 1) := by decide +kernel
theorem dX7_strike_61 : decode cX7_strike 61 = .ok (.lconst 0, 1) := by decide +kernel
theorem dX7_strike_62 : decode cX7_strike 62 = .ok (.lconst 1, 1) := by decide +kernel
theorem dX7_strike_63 : decode cX7_strike 63 = .ok (.invokestatic 78, 3) := by decide +kernel
theorem dX7_strike_66 : decode cX7_strike 66 = .ok (.ifCond .ne 6, 3) := by decide +kernel
theorem dX7_strike_69 : decode cX7_strike 69 = .ok (.bipush (-2), 2) := by decide +kernel
theorem dX7_strike_71 : decode cX7_strike 71 = .ok (.ireturn, 1) := by decide +kernel
theorem dX7_strike_72 : decode cX7_strike 72 = .ok (.iconst 0, 1) := by decide +kernel
theorem dX7_strike_73 : decode cX7_strike 73 = .ok (.istore 5, 2) := by decide +kernel
theorem dX7_strike_75 : decode cX7_strike 75 = .ok (.iconst 0, 1) := by decide +kernel
theorem dX7_strike_76 : decode cX7_strike 76 = .ok (.istore 6, 2) := by decide +kernel
theorem dX7_strike_78 : decode cX7_strike 78 = .ok (.iload 6, 2) := by decide +kernel
theorem dX7_strike_80 : decode cX7_strike 80 = .ok (.bipush 13, 2) := by decide +kernel
theorem dX7_strike_82 : decode cX7_strike 82 = .ok (.if_icmp .ge 30, 3) := by decide +kernel
theorem dX7_strike_85 : decode cX7_strike 85 = .ok (.iload_n 1, 1) := by decide +kernel
theorem dX7_strike_86 : decode cX7_strike 86 = .ok (.iload 6, 2) := by decide +kernel
theorem dX7_strike_88 : decode cX7_strike 88 = .ok (.invokestatic 150, 3) := by decide +kernel
theorem dX7_strike_91 : decode cX7_strike 91 = .ok (.ifCond .eq 15, 3) := by decide +kernel
theorem dX7_strike_94 : decode cX7_strike 94 = .ok (.aload_n 0, 1) := by decide +kernel
theorem dX7_strike_95 : decode cX7_strike 95 = .ok (.getfield 62, 3) := by decide +kernel
theorem dX7_strike_98 : decode cX7_strike 98 = .ok (.iload 5, 2) := by decide +kernel
theorem dX7_strike_100 : decode cX7_strike 100 = .ok (.iload 6, 2) := by decide +kernel
theorem dX7_strike_102 : decode cX7_strike 102 = .ok (.iastore, 1) := by decide +kernel
theorem dX7_strike_103 : decode cX7_strike 103 = .ok (.iinc 5 1, 3) := by decide +kernel
theorem dX7_strike_106 : decode cX7_strike 106 = .ok (.iinc 6 1, 3) := by decide +kernel
theorem dX7_strike_109 : decode cX7_strike 109 = .ok (.goto (-31), 3) := by decide +kernel
theorem dX7_strike_112 : decode cX7_strike 112 = .ok (.iconst 1, 1) := by decide +kernel
theorem dX7_strike_113 : decode cX7_strike 113 = .ok (.istore 6, 2) := by decide +kernel
theorem dX7_strike_115 : decode cX7_strike 115 = .ok (.iload 6, 2) := by decide +kernel
theorem dX7_strike_117 : decode cX7_strike 117 = .ok (.iconst 1, 1) := by decide +kernel
theorem dX7_strike_118 : decode cX7_strike 118 = .ok (.iload 5, 2) := by decide +kernel
theorem dX7_strike_120 : decode cX7_strike 120 = .ok (.ishl, 1) := by decide +kernel
theorem dX7_strike_121 : decode cX7_strike 121 = .ok (.if_icmp .ge 172, 3) := by decide +kernel
theorem dX7_strike_124 : decode cX7_strike 124 = .ok (.iload 5, 2) := by decide +kernel
theorem dX7_strike_126 : decode cX7_strike 126 = .ok (.iload 6, 2) := by decide +kernel
theorem dX7_strike_128 : decode cX7_strike 128 = .ok (.invokestatic 174, 3) := by decide +kernel
theorem dX7_strike_131 : decode cX7_strike 131 = .ok (.isub, 1) := by decide +kernel
theorem dX7_strike_132 : decode cX7_strike 132 = .ok (.iconst 2, 1) := by decide +kernel
theorem dX7_strike_133 : decode cX7_strike 133 = .ok (.irem, 1) := by decide +kernel
theorem dX7_strike_134 : decode cX7_strike 134 = .ok (.ifCond .ne 7, 3) := by decide +kernel
theorem dX7_strike_137 : decode cX7_strike 137 = .ok (.iload_n 2, 1) := by decide +kernel
theorem dX7_strike_138 : decode cX7_strike 138 = .ok (.goto 4, 3) := by decide +kernel
theorem dX7_strike_141 : decode cX7_strike 141 = .ok (.iload_n 3, 1) := by decide +kernel
theorem dX7_strike_142 : decode cX7_strike 142 = .ok (.istore 7, 2) := by decide +kernel
theorem dX7_strike_144 : decode cX7_strike 144 = .ok (.aload_n 0, 1) := by decide +kernel
theorem dX7_strike_145 : decode cX7_strike 145 = .ok (.getfield 65, 3) := by decide +kernel
theorem dX7_strike_148 : decode cX7_strike 148 = .ok (.iload 6, 2) := by decide +kernel
theorem dX7_strike_150 : decode cX7_strike 150 = .ok (.bipush (-9), 2) := by decide +kernel
theorem dX7_strike_152 : decode cX7_strike 152 = .ok (.iastore, 1) := by decide +kernel
theorem dX7_strike_153 : decode cX7_strike 153 = .ok (.aload_n 0, 1) := by decide +kernel
theorem dX7_strike_154 : decode cX7_strike 154 = .ok (.getfield 68, 3) := by decide +kernel
theorem dX7_strike_157 : decode cX7_strike 157 = .ok (.iload 6, 2) := by decide +kernel
theorem dX7_strike_159 : decode cX7_strike 159 = .ok (.bipush (-9), 2) := by decide +kernel
theorem dX7_strike_161 : decode cX7_strike 161 = .ok (.iastore, 1) := by decide +kernel
theorem dX7_strike_162 : decode cX7_strike 162 = .ok (.iconst 0, 1) := by decide +kernel
theorem dX7_strike_163 : decode cX7_strike 163 = .ok (.istore 8, 2) := by decide +kernel
theorem dX7_strike_165 : decode cX7_strike 165 = .ok (.iload 8, 2) := by decide +kernel
theorem dX7_strike_167 : decode cX7_strike 167 = .ok (.iload 5, 2) := by decide +kernel
theorem dX7_strike_169 : decode cX7_strike 169 = .ok (.if_icmp .ge 118, 3) := by decide +kernel
theorem dX7_strike_172 : decode cX7_strike 172 = .ok (.iload 6, 2) := by decide +kernel
theorem dX7_strike_174 : decode cX7_strike 174 = .ok (.iconst 1, 1) := by decide +kernel
theorem dX7_strike_175 : decode cX7_strike 175 = .ok (.iload 8, 2) := by decide +kernel
theorem dX7_strike_177 : decode cX7_strike 177 = .ok (.ishl, 1) := by decide +kernel
theorem dX7_strike_178 : decode cX7_strike 178 = .ok (.if_icmp .ne 20, 3) := by decide +kernel
theorem dX7_strike_181 : decode cX7_strike 181 = .ok (.aload_n 0, 1) := by decide +kernel
theorem dX7_strike_182 : decode cX7_strike 182 = .ok (.getfield 65, 3) := by decide +kernel
theorem dX7_strike_185 : decode cX7_strike 185 = .ok (.iload 6, 2) := by decide +kernel
theorem dX7_strike_187 : decode cX7_strike 187 = .ok (.aload_n 0, 1) := by decide +kernel
theorem dX7_strike_188 : decode cX7_strike 188 = .ok (.getfield 62, 3) := by decide +kernel
theorem dX7_strike_191 : decode cX7_strike 191 = .ok (.iload 8, 2) := by decide +kernel
theorem dX7_strike_193 : decode cX7_strike 193 = .ok (.iaload, 1) := by decide +kernel
theorem dX7_strike_194 : decode cX7_strike 194 = .ok (.iastore, 1) := by decide +kernel
theorem dX7_strike_195 : decode cX7_strike 195 = .ok (.goto 86, 3) := by decide +kernel
theorem dX7_strike_198 : decode cX7_strike 198 = .ok (.iload 6, 2) := by decide +kernel
theorem dX7_strike_200 : decode cX7_strike 200 = .ok (.iload 8, 2) := by decide +kernel
theorem dX7_strike_202 : decode cX7_strike 202 = .ok (.invokestatic 150, 3) := by decide +kernel
theorem dX7_strike_205 : decode cX7_strike 205 = .ok (.ifCond .eq 76, 3) := by decide +kernel
theorem dX7_strike_208 : decode cX7_strike 208 = .ok (.aload_n 0, 1) := by decide +kernel
theorem dX7_strike_209 : decode cX7_strike 209 = .ok (.getfield 65, 3) := by decide +kernel
theorem dX7_strike_212 : decode cX7_strike 212 = .ok (.iload 6, 2) := by decide +kernel
theorem dX7_strike_214 : decode cX7_strike 214 = .ok (.iconst 1, 1) := by decide +kernel
theorem dX7_strike_215 : decode cX7_strike 215 = .ok (.iload 8, 2) := by decide +kernel
theorem dX7_strike_217 : decode cX7_strike 217 = .ok (.ishl, 1) := by decide +kernel
theorem dX7_strike_218 : decode cX7_strike 218 = .ok (.iconst (-1), 1) := by decide +kernel
theorem dX7_strike_219 : decode cX7_strike 219 = .ok (.ixor, 1) := by decide +kernel
theorem dX7_strike_220 : decode cX7_strike 220 = .ok (.iand, 1) := by decide +kernel
theorem dX7_strike_221 : decode cX7_strike 221 = .ok (.iaload, 1) := by decide +kernel
theorem dX7_strike_222 : decode cX7_strike 222 = .ok (.istore 9, 2) := by decide +kernel
theorem dX7_strike_224 : decode cX7_strike 224 = .ok (.aload_n 0, 1) := by decide +kernel
theorem dX7_strike_225 : decode cX7_strike 225 = .ok (.getfield 65, 3) := by decide +kernel
theorem dX7_strike_228 : decode cX7_strike 228 = .ok (.iload 6, 2) := by decide +kernel
theorem dX7_strike_230 : decode cX7_strike 230 = .ok (.iaload, 1) := by decide +kernel
theorem dX7_strike_231 : decode cX7_strike 231 = .ok (.bipush (-9), 2) := by decide +kernel
theorem dX7_strike_233 : decode cX7_strike 233 = .ok (.if_icmp .eq 25, 3) := by decide +kernel
theorem dX7_strike_236 : decode cX7_strike 236 = .ok (.iload 9, 2) := by decide +kernel
theorem dX7_strike_238 : decode cX7_strike 238 = .ok (.iload 7, 2) := by decide +kernel
theorem dX7_strike_240 : decode cX7_strike 240 = .ok (.invokestatic 192, 3) := by decide +kernel
theorem dX7_strike_243 : decode cX7_strike 243 = .ok (.aload_n 0, 1) := by decide +kernel
theorem dX7_strike_244 : decode cX7_strike 244 = .ok (.getfield 65, 3) := by decide +kernel
theorem dX7_strike_247 : decode cX7_strike 247 = .ok (.iload 6, 2) := by decide +kernel
theorem dX7_strike_249 : decode cX7_strike 249 = .ok (.iaload, 1) := by decide +kernel
theorem dX7_strike_250 : decode cX7_strike 250 = .ok (.iload 7, 2) := by decide +kernel
theorem dX7_strike_252 : decode cX7_strike 252 = .ok (.invokestatic 192, 3) := by decide +kernel
theorem dX7_strike_255 : decode cX7_strike 255 = .ok (.if_icmp .ge 26, 3) := by decide +kernel
theorem dX7_strike_258 : decode cX7_strike 258 = .ok (.aload_n 0, 1) := by decide +kernel
theorem dX7_strike_259 : decode cX7_strike 259 = .ok (.getfield 65, 3) := by decide +kernel
theorem dX7_strike_262 : decode cX7_strike 262 = .ok (.iload 6, 2) := by decide +kernel
theorem dX7_strike_264 : decode cX7_strike 264 = .ok (.iload 9, 2) := by decide +kernel
theorem dX7_strike_266 : decode cX7_strike 266 = .ok (.iastore, 1) := by decide +kernel
theorem dX7_strike_267 : decode cX7_strike 267 = .ok (.aload_n 0, 1) := by decide +kernel
theorem dX7_strike_268 : decode cX7_strike 268 = .ok (.getfield 68, 3) := by decide +kernel
theorem dX7_strike_271 : decode cX7_strike 271 = .ok (.iload 6, 2) := by decide +kernel
theorem dX7_strike_273 : decode cX7_strike 273 = .ok (.aload_n 0, 1) := by decide +kernel
theorem dX7_strike_274 : decode cX7_strike 274 = .ok (.getfield 62, 3) := by decide +kernel
theorem dX7_strike_277 : decode cX7_strike 277 = .ok (.iload 8, 2) := by decide +kernel
theorem dX7_strike_279 : decode cX7_strike 279 = .ok (.iaload, 1) := by decide +kernel
theorem dX7_strike_280 : decode cX7_strike 280 = .ok (.iastore, 1) := by decide +kernel
theorem dX7_strike_281 : decode cX7_strike 281 = .ok (.iinc 8 1, 3) := by decide +kernel
theorem dX7_strike_284 : decode cX7_strike 284 = .ok (.goto (-119), 3) := by decide +kernel
theorem dX7_strike_287 : decode cX7_strike 287 = .ok (.iinc 6 1, 3) := by decide +kernel
theorem dX7_strike_290 : decode cX7_strike 290 = .ok (.goto (-175), 3) := by decide +kernel
theorem dX7_strike_293 : decode cX7_strike 293 = .ok (.iload 4, 2) := by decide +kernel
theorem dX7_strike_295 : decode cX7_strike 295 = .ok (.ifCond .ne 17, 3) := by decide +kernel
theorem dX7_strike_298 : decode cX7_strike 298 = .ok (.aload_n 0, 1) := by decide +kernel
theorem dX7_strike_299 : decode cX7_strike 299 = .ok (.getfield 65, 3) := by decide +kernel
theorem dX7_strike_302 : decode cX7_strike 302 = .ok (.iconst 1, 1) := by decide +kernel
theorem dX7_strike_303 : decode cX7_strike 303 = .ok (.iload 5, 2) := by decide +kernel
theorem dX7_strike_305 : decode cX7_strike 305 = .ok (.ishl, 1) := by decide +kernel
theorem dX7_strike_306 : decode cX7_strike 306 = .ok (.iconst 1, 1) := by decide +kernel
theorem dX7_strike_307 : decode cX7_strike 307 = .ok (.isub, 1) := by decide +kernel
theorem dX7_strike_308 : decode cX7_strike 308 = .ok (.iaload, 1) := by decide +kernel
theorem dX7_strike_309 : decode cX7_strike 309 = .ok (.goto 14, 3) := by decide +kernel
theorem dX7_strike_312 : decode cX7_strike 312 = .ok (.aload_n 0, 1) := by decide +kernel
theorem dX7_strike_313 : decode cX7_strike 313 = .ok (.getfield 68, 3) := by decide +kernel
theorem dX7_strike_316 : decode cX7_strike 316 = .ok (.iconst 1, 1) := by decide +kernel
theorem dX7_strike_317 : decode cX7_strike 317 = .ok (.iload 5, 2) := by decide +kernel
theorem dX7_strike_319 : decode cX7_strike 319 = .ok (.ishl, 1) := by decide +kernel
theorem dX7_strike_320 : decode cX7_strike 320 = .ok (.iconst 1, 1) := by decide +kernel
theorem dX7_strike_321 : decode cX7_strike 321 = .ok (.isub, 1) := by decide +kernel
theorem dX7_strike_322 : decode cX7_strike 322 = .ok (.iaload, 1) := by decide +kernel
theorem dX7_strike_323 : decode cX7_strike 323 = .ok (.ireturn, 1) := by decide +kernel
set_option maxRecDepth 20000 in
theorem ggX7_rule_X7_in : GoodIn wsX7_rule wsX7_in := goodIn_r _ [6] (by decide +kernel) (by decide +kernel)
set_option maxRecDepth 20000 in
theorem gX7_rule_X7_in : GoodIn wsX7_rule (va_wsS RX7 78 yX7_in wsX7_in) := goodIn_app (goodIn_of _ (by decide +kernel)) ggX7_rule_X7_in
set_option maxRecDepth 20000 in
theorem ggX7_rule_X7_has : GoodIn wsX7_rule wsX7_has := goodIn_r _ [9] (by decide +kernel) (by decide +kernel)
set_option maxRecDepth 20000 in
theorem gX7_rule_X7_has : GoodIn wsX7_rule (va_wsS RX7 150 yX7_has wsX7_has) := goodIn_app (goodIn_of _ (by decide +kernel)) ggX7_rule_X7_has
theorem dX7_rule_0 : decode cX7_rule 0 = .ok (.aload_n 0, 1) := by decide +kernel
theorem dX7_rule_1 : decode cX7_rule 1 = .ok (.iconst 0, 1) := by decide +kernel
theorem dX7_rule_2 : decode cX7_rule 2 = .ok (.putfield 71, 3) := by decide +kernel
theorem dX7_rule_5 : decode cX7_rule 5 = .ok (.iload_n 1, 1) := by decide +kernel
theorem dX7_rule_6 : decode cX7_rule 6 = .ok (.i2l, 1) := by decide +kernel
theorem dX7_rule_7 : decode cX7_rule 7 = .ok (.lconst 1, 1) := by decide +kernel
theorem dX7_rule_8 : decode cX7_rule 8 = .ok (.ldc2_w 195, 3) := by decide +kernel
theorem dX7_rule_11 : decode cX7_rule 11 = .ok (.invokestatic 78, 3) := by decide +kernel
theorem dX7_rule_14 : decode cX7_rule 14 = .ok (.ifCond .eq 28, 3) := by decide +kernel
theorem dX7_rule_17 : decode cX7_rule 17 = .ok (.iload_n 2, 1) := by decide +kernel
theorem dX7_rule_18 : decode cX7_rule 18 = .ok (.i2l, 1) := by decide +kernel
theorem dX7_rule_19 : decode cX7_rule 19 = .ok (.lconst 0, 1) := by decide +kernel
theorem dX7_rule_20 : decode cX7_rule 20 = .ok (.iconst 1, 1) := by decide +kernel
theorem dX7_rule_21 : decode cX7_rule 21 = .ok (.iload_n 1, 1) := by decide +kernel
theorem dX7_rule_22 : decode cX7_rule 22 = .ok (.ishl, 1) := by decide +kernel
theorem dX7_rule_23 : decode cX7_rule 23 = .ok (.iconst 1, 1) := by decide +kernel
theorem dX7_rule_24 : decode cX7_rule 24 = .ok (.isub, 1) := by decide +kernel
theorem dX7_rule_25 : decode cX7_rule 25 = .ok (.i2l, 1) := by decide +kernel
theorem dX7_rule_26 : decode cX7_rule 26 = .ok (.invokestatic 78, 3) := by decide +kernel
theorem dX7_rule_29 : decode cX7_rule 29 = .ok (.ifCond .eq 13, 3) := by decide +kernel
theorem dX7_rule_32 : decode cX7_rule 32 = .ok (.iload_n 3, 1) := by decide +kernel
theorem dX7_rule_33 : decode cX7_rule 33 = .ok (.i2l, 1) := by decide +kernel
theorem dX7_rule_34 : decode cX7_rule 34 = .ok (.lconst 0, 1) := by decide +kernel
theorem dX7_rule_35 : decode cX7_rule 35 = .ok (.lconst 1, 1) := by decide +kernel
theorem dX7_rule_36 : decode cX7_rule 36 = .ok (.invokestatic 78, 3) := by decide +kernel
theorem dX7_rule_39 : decode cX7_rule 39 = .ok (.ifCond .ne 6, 3) := by decide +kernel
theorem dX7_rule_42 : decode cX7_rule 42 = .ok (.bipush (-2), 2) := by decide +kernel
theorem dX7_rule_44 : decode cX7_rule 44 = .ok (.ireturn, 1) := by decide +kernel
theorem dX7_rule_45 : decode cX7_rule 45 = .ok (.iload_n 2, 1) := by decide +kernel
theorem dX7_rule_46 : decode cX7_rule 46 = .ok (.ifCond .ne 5, 3) := by decide +kernel
theorem dX7_rule_49 : decode cX7_rule 49 = .ok (.iconst 0, 1) := by decide +kernel
theorem dX7_rule_50 : decode cX7_rule 50 = .ok (.ireturn, 1) := by decide +kernel
theorem dX7_rule_51 : decode cX7_rule 51 = .ok (.iconst 1, 1) := by decide +kernel
theorem dX7_rule_52 : decode cX7_rule 52 = .ok (.istore 4, 2) := by decide +kernel
theorem dX7_rule_54 : decode cX7_rule 54 = .ok (.iload 4, 2) := by decide +kernel
theorem dX7_rule_56 : decode cX7_rule 56 = .ok (.bipush 10, 2) := by decide +kernel
theorem dX7_rule_58 : decode cX7_rule 58 = .ok (.if_icmp .gt 96, 3) := by decide +kernel
theorem dX7_rule_61 : decode cX7_rule 61 = .ok (.iconst 0, 1) := by decide +kernel
theorem dX7_rule_62 : decode cX7_rule 62 = .ok (.istore 5, 2) := by decide +kernel
theorem dX7_rule_64 : decode cX7_rule 64 = .ok (.iload 5, 2) := by decide +kernel
theorem dX7_rule_66 : decode cX7_rule 66 = .ok (.iload 4, 2) := by decide +kernel
theorem dX7_rule_68 : decode cX7_rule 68 = .ok (.if_icmp .ge 80, 3) := by decide +kernel
theorem dX7_rule_71 : decode cX7_rule 71 = .ok (.iconst 1, 1) := by decide +kernel
theorem dX7_rule_72 : decode cX7_rule 72 = .ok (.istore 6, 2) := by decide +kernel
theorem dX7_rule_74 : decode cX7_rule 74 = .ok (.iconst 0, 1) := by decide +kernel
theorem dX7_rule_75 : decode cX7_rule 75 = .ok (.istore 7, 2) := by decide +kernel
theorem dX7_rule_77 : decode cX7_rule 77 = .ok (.iload 7, 2) := by decide +kernel
theorem dX7_rule_79 : decode cX7_rule 79 = .ok (.iload_n 1, 1) := by decide +kernel
theorem dX7_rule_80 : decode cX7_rule 80 = .ok (.if_icmp .ge 45, 3) := by decide +kernel
theorem dX7_rule_83 : decode cX7_rule 83 = .ok (.iload 6, 2) := by decide +kernel
theorem dX7_rule_85 : decode cX7_rule 85 = .ok (.ifCond .eq 40, 3) := by decide +kernel
theorem dX7_rule_88 : decode cX7_rule 88 = .ok (.iload_n 2, 1) := by decide +kernel
theorem dX7_rule_89 : decode cX7_rule 89 = .ok (.iload 7, 2) := by decide +kernel
theorem dX7_rule_91 : decode cX7_rule 91 = .ok (.invokestatic 150, 3) := by decide +kernel
theorem dX7_rule_94 : decode cX7_rule 94 = .ok (.iload 7, 2) := by decide +kernel
theorem dX7_rule_96 : decode cX7_rule 96 = .ok (.iload 4, 2) := by decide +kernel
theorem dX7_rule_98 : decode cX7_rule 98 = .ok (.irem, 1) := by decide +kernel
theorem dX7_rule_99 : decode cX7_rule 99 = .ok (.iload 5, 2) := by decide +kernel
theorem dX7_rule_101 : decode cX7_rule 101 = .ok (.if_icmp .ne 7, 3) := by decide +kernel
theorem dX7_rule_104 : decode cX7_rule 104 = .ok (.iconst 1, 1) := by decide +kernel
theorem dX7_rule_105 : decode cX7_rule 105 = .ok (.goto 4, 3) := by decide +kernel
theorem dX7_rule_108 : decode cX7_rule 108 = .ok (.iconst 0, 1) := by decide +kernel
theorem dX7_rule_109 : decode cX7_rule 109 = .ok (.if_icmp .ne 7, 3) := by decide +kernel
theorem dX7_rule_112 : decode cX7_rule 112 = .ok (.iconst 1, 1) := by decide +kernel
theorem dX7_rule_113 : decode cX7_rule 113 = .ok (.goto 4, 3) := by decide +kernel
theorem dX7_rule_116 : decode cX7_rule 116 = .ok (.iconst 0, 1) := by decide +kernel
theorem dX7_rule_117 : decode cX7_rule 117 = .ok (.istore 6, 2) := by decide +kernel
theorem dX7_rule_119 : decode cX7_rule 119 = .ok (.iinc 7 1, 3) := by decide +kernel
theorem dX7_rule_122 : decode cX7_rule 122 = .ok (.goto (-45), 3) := by decide +kernel
theorem dX7_rule_125 : decode cX7_rule 125 = .ok (.iload 6, 2) := by decide +kernel
theorem dX7_rule_127 : decode cX7_rule 127 = .ok (.ifCond .eq 15, 3) := by decide +kernel
theorem dX7_rule_130 : decode cX7_rule 130 = .ok (.iload_n 3, 1) := by decide +kernel
theorem dX7_rule_131 : decode cX7_rule 131 = .ok (.ifCond .ne 8, 3) := by decide +kernel
theorem dX7_rule_134 : decode cX7_rule 134 = .ok (.iload 4, 2) := by decide +kernel
theorem dX7_rule_136 : decode cX7_rule 136 = .ok (.goto 5, 3) := by decide +kernel
theorem dX7_rule_139 : decode cX7_rule 139 = .ok (.iload 5, 2) := by decide +kernel
theorem dX7_rule_141 : decode cX7_rule 141 = .ok (.ireturn, 1) := by decide +kernel
theorem dX7_rule_142 : decode cX7_rule 142 = .ok (.iinc 5 1, 3) := by decide +kernel
theorem dX7_rule_145 : decode cX7_rule 145 = .ok (.goto (-81), 3) := by decide +kernel
theorem dX7_rule_148 : decode cX7_rule 148 = .ok (.iinc 4 1, 3) := by decide +kernel
theorem dX7_rule_151 : decode cX7_rule 151 = .ok (.goto (-97), 3) := by decide +kernel
theorem dX7_rule_154 : decode cX7_rule 154 = .ok (.bipush (-9), 2) := by decide +kernel
theorem dX7_rule_156 : decode cX7_rule 156 = .ok (.ireturn, 1) := by decide +kernel
theorem dX7_divisor_0 : decode cX7_divisor 0 = .ok (.iload_n 0, 1) := by decide +kernel
theorem dX7_divisor_1 : decode cX7_divisor 1 = .ok (.istore_n 2, 1) := by decide +kernel
theorem dX7_divisor_2 : decode cX7_divisor 2 = .ok (.iload_n 1, 1) := by decide +kernel
theorem dX7_divisor_3 : decode cX7_divisor 3 = .ok (.istore_n 3, 1) := by decide +kernel
theorem dX7_divisor_4 : decode cX7_divisor 4 = .ok (.iload_n 3, 1) := by decide +kernel
theorem dX7_divisor_5 : decode cX7_divisor 5 = .ok (.ifCond .eq 16, 3) := by decide +kernel
theorem dX7_divisor_8 : decode cX7_divisor 8 = .ok (.iload_n 2, 1) := by decide +kernel
theorem dX7_divisor_9 : decode cX7_divisor 9 = .ok (.iload_n 3, 1) := by decide +kernel
theorem dX7_divisor_10 : decode cX7_divisor 10 = .ok (.irem, 1) := by decide +kernel
theorem dX7_divisor_11 : decode cX7_divisor 11 = .ok (.istore 4, 2) := by decide +kernel
theorem dX7_divisor_13 : decode cX7_divisor 13 = .ok (.iload_n 3, 1) := by decide +kernel
theorem dX7_divisor_14 : decode cX7_divisor 14 = .ok (.istore_n 2, 1) := by decide +kernel
theorem dX7_divisor_15 : decode cX7_divisor 15 = .ok (.iload 4, 2) := by decide +kernel
theorem dX7_divisor_17 : decode cX7_divisor 17 = .ok (.istore_n 3, 1) := by decide +kernel
theorem dX7_divisor_18 : decode cX7_divisor 18 = .ok (.goto (-14), 3) := by decide +kernel
theorem dX7_divisor_21 : decode cX7_divisor 21 = .ok (.iload_n 2, 1) := by decide +kernel
theorem dX7_divisor_22 : decode cX7_divisor 22 = .ok (.ireturn, 1) := by decide +kernel
set_option maxRecDepth 20000 in
theorem ggX7_slips_X7_in : GoodIn wsX7_slips wsX7_in := goodIn_r _ [7] (by decide +kernel) (by decide +kernel)
set_option maxRecDepth 20000 in
theorem gX7_slips_X7_in : GoodIn wsX7_slips (va_wsS RX7 78 yX7_in wsX7_in) := goodIn_app (goodIn_of _ (by decide +kernel)) ggX7_slips_X7_in
set_option maxRecDepth 20000 in
theorem ggX7_slips_X7_many : GoodIn wsX7_slips wsX7_many := goodIn_r _ [10] (by decide +kernel) (by decide +kernel)
set_option maxRecDepth 20000 in
theorem gX7_slips_X7_many : GoodIn wsX7_slips (va_wsS RX7 174 yX7_many wsX7_many) := goodIn_app (goodIn_of _ (by decide +kernel)) ggX7_slips_X7_many
set_option maxRecDepth 20000 in
theorem ggX7_slips_X7_has : GoodIn wsX7_slips wsX7_has := goodIn_r _ [13] (by decide +kernel) (by decide +kernel)
set_option maxRecDepth 20000 in
theorem gX7_slips_X7_has : GoodIn wsX7_slips (va_wsS RX7 150 yX7_has wsX7_has) := goodIn_app (goodIn_of _ (by decide +kernel)) ggX7_slips_X7_has
set_option maxRecDepth 20000 in
theorem ggX7_slips_X7_divisor : GoodIn wsX7_slips wsX7_divisor := goodIn_r _ [16] (by decide +kernel) (by decide +kernel)
set_option maxRecDepth 20000 in
theorem gX7_slips_X7_divisor : GoodIn wsX7_slips (va_wsS RX7 197 yX7_divisor wsX7_divisor) := goodIn_app (goodIn_of _ (by decide +kernel)) ggX7_slips_X7_divisor
theorem dX7_slips_0 : decode cX7_slips 0 = .ok (.aload_n 0, 1) := by decide +kernel
theorem dX7_slips_1 : decode cX7_slips 1 = .ok (.iconst 0, 1) := by decide +kernel
theorem dX7_slips_2 : decode cX7_slips 2 = .ok (.putfield 71, 3) := by decide +kernel
theorem dX7_slips_5 : decode cX7_slips 5 = .ok (.iload_n 1, 1) := by decide +kernel
theorem dX7_slips_6 : decode cX7_slips 6 = .ok (.i2l, 1) := by decide +kernel
theorem dX7_slips_7 : decode cX7_slips 7 = .ok (.lconst 1, 1) := by decide +kernel
theorem dX7_slips_8 : decode cX7_slips 8 = .ok (.ldc2_w 188, 3) := by decide +kernel
theorem dX7_slips_11 : decode cX7_slips 11 = .ok (.invokestatic 78, 3) := by decide +kernel
theorem dX7_slips_14 : decode cX7_slips 14 = .ok (.ifCond .eq 26, 3) := by decide +kernel
theorem dX7_slips_17 : decode cX7_slips 17 = .ok (.iload_n 2, 1) := by decide +kernel
theorem dX7_slips_18 : decode cX7_slips 18 = .ok (.i2l, 1) := by decide +kernel
theorem dX7_slips_19 : decode cX7_slips 19 = .ok (.lconst 0, 1) := by decide +kernel
theorem dX7_slips_20 : decode cX7_slips 20 = .ok (.iload_n 1, 1) := by decide +kernel
theorem dX7_slips_21 : decode cX7_slips 21 = .ok (.i2l, 1) := by decide +kernel
theorem dX7_slips_22 : decode cX7_slips 22 = .ok (.invokestatic 78, 3) := by decide +kernel
theorem dX7_slips_25 : decode cX7_slips 25 = .ok (.ifCond .eq 15, 3) := by decide +kernel
theorem dX7_slips_28 : decode cX7_slips 28 = .ok (.iload_n 3, 1) := by decide +kernel
theorem dX7_slips_29 : decode cX7_slips 29 = .ok (.i2l, 1) := by decide +kernel
theorem dX7_slips_30 : decode cX7_slips 30 = .ok (.lconst 0, 1) := by decide +kernel
theorem dX7_slips_31 : decode cX7_slips 31 = .ok (.ldc2_w 195, 3) := by decide +kernel
theorem dX7_slips_34 : decode cX7_slips 34 = .ok (.invokestatic 78, 3) := by decide +kernel
theorem dX7_slips_37 : decode cX7_slips 37 = .ok (.ifCond .ne 6, 3) := by decide +kernel
theorem dX7_slips_40 : decode cX7_slips 40 = .ok (.bipush (-2), 2) := by decide +kernel
theorem dX7_slips_42 : decode cX7_slips 42 = .ok (.ireturn, 1) := by decide +kernel
theorem dX7_slips_43 : decode cX7_slips 43 = .ok (.iconst 0, 1) := by decide +kernel
theorem dX7_slips_44 : decode cX7_slips 44 = .ok (.istore 5, 2) := by decide +kernel
theorem dX7_slips_46 : decode cX7_slips 46 = .ok (.iconst 1, 1) := by decide +kernel
theorem dX7_slips_47 : decode cX7_slips 47 = .ok (.istore 6, 2) := by decide +kernel
theorem dX7_slips_49 : decode cX7_slips 49 = .ok (.iconst 0, 1) := by decide +kernel
theorem dX7_slips_50 : decode cX7_slips 50 = .ok (.istore 7, 2) := by decide +kernel
theorem dX7_slips_52 : decode cX7_slips 52 = .ok (.iload 7, 2) := by decide +kernel
theorem dX7_slips_54 : decode cX7_slips 54 = .ok (.iload_n 1, 1) := by decide +kernel
theorem dX7_slips_55 : decode cX7_slips 55 = .ok (.if_icmp .ge 16, 3) := by decide +kernel
theorem dX7_slips_58 : decode cX7_slips 58 = .ok (.iload 6, 2) := by decide +kernel
theorem dX7_slips_60 : decode cX7_slips 60 = .ok (.bipush 10, 2) := by decide +kernel
theorem dX7_slips_62 : decode cX7_slips 62 = .ok (.imul, 1) := by decide +kernel
theorem dX7_slips_63 : decode cX7_slips 63 = .ok (.istore 6, 2) := by decide +kernel
theorem dX7_slips_65 : decode cX7_slips 65 = .ok (.iinc 7 1, 3) := by decide +kernel
theorem dX7_slips_68 : decode cX7_slips 68 = .ok (.goto (-16), 3) := by decide +kernel
theorem dX7_slips_71 : decode cX7_slips 71 = .ok (.iconst 0, 1) := by decide +kernel
theorem dX7_slips_72 : decode cX7_slips 72 = .ok (.istore 7, 2) := by decide +kernel
theorem dX7_slips_74 : decode cX7_slips 74 = .ok (.iload 7, 2) := by decide +kernel
theorem dX7_slips_76 : decode cX7_slips 76 = .ok (.iconst 1, 1) := by decide +kernel
theorem dX7_slips_77 : decode cX7_slips 77 = .ok (.iload_n 1, 1) := by decide +kernel
theorem dX7_slips_78 : decode cX7_slips 78 = .ok (.ishl, 1) := by decide +kernel
theorem dX7_slips_79 : decode cX7_slips 79 = .ok (.if_icmp .ge 70, 3) := by decide +kernel
theorem dX7_slips_82 : decode cX7_slips 82 = .ok (.iload 7, 2) := by decide +kernel
theorem dX7_slips_84 : decode cX7_slips 84 = .ok (.invokestatic 174, 3) := by decide +kernel
theorem dX7_slips_87 : decode cX7_slips 87 = .ok (.iload_n 2, 1) := by decide +kernel
theorem dX7_slips_88 : decode cX7_slips 88 = .ok (.if_icmp .ne 7, 3) := by decide +kernel
theorem dX7_slips_91 : decode cX7_slips 91 = .ok (.iconst 1, 1) := by decide +kernel
theorem dX7_slips_92 : decode cX7_slips 92 = .ok (.goto 4, 3) := by decide +kernel
theorem dX7_slips_95 : decode cX7_slips 95 = .ok (.iconst 0, 1) := by decide +kernel
theorem dX7_slips_96 : decode cX7_slips 96 = .ok (.istore 8, 2) := by decide +kernel
theorem dX7_slips_98 : decode cX7_slips 98 = .ok (.iconst 0, 1) := by decide +kernel
theorem dX7_slips_99 : decode cX7_slips 99 = .ok (.istore 9, 2) := by decide +kernel
theorem dX7_slips_101 : decode cX7_slips 101 = .ok (.iload 9, 2) := by decide +kernel
theorem dX7_slips_103 : decode cX7_slips 103 = .ok (.iload_n 1, 1) := by decide +kernel
theorem dX7_slips_104 : decode cX7_slips 104 = .ok (.if_icmp .ge 32, 3) := by decide +kernel
theorem dX7_slips_107 : decode cX7_slips 107 = .ok (.iload 8, 2) := by decide +kernel
theorem dX7_slips_109 : decode cX7_slips 109 = .ok (.iload 7, 2) := by decide +kernel
theorem dX7_slips_111 : decode cX7_slips 111 = .ok (.iload 9, 2) := by decide +kernel
theorem dX7_slips_113 : decode cX7_slips 113 = .ok (.invokestatic 150, 3) := by decide +kernel
theorem dX7_slips_116 : decode cX7_slips 116 = .ok (.ifCond .eq 7, 3) := by decide +kernel
theorem dX7_slips_119 : decode cX7_slips 119 = .ok (.iload_n 3, 1) := by decide +kernel
theorem dX7_slips_120 : decode cX7_slips 120 = .ok (.goto 7, 3) := by decide +kernel
theorem dX7_slips_123 : decode cX7_slips 123 = .ok (.bipush 10, 2) := by decide +kernel
theorem dX7_slips_125 : decode cX7_slips 125 = .ok (.iload_n 3, 1) := by decide +kernel
theorem dX7_slips_126 : decode cX7_slips 126 = .ok (.isub, 1) := by decide +kernel
theorem dX7_slips_127 : decode cX7_slips 127 = .ok (.imul, 1) := by decide +kernel
theorem dX7_slips_128 : decode cX7_slips 128 = .ok (.istore 8, 2) := by decide +kernel
theorem dX7_slips_130 : decode cX7_slips 130 = .ok (.iinc 9 1, 3) := by decide +kernel
theorem dX7_slips_133 : decode cX7_slips 133 = .ok (.goto (-32), 3) := by decide +kernel
theorem dX7_slips_136 : decode cX7_slips 136 = .ok (.iload 5, 2) := by decide +kernel
theorem dX7_slips_138 : decode cX7_slips 138 = .ok (.iload 8, 2) := by decide +kernel
theorem dX7_slips_140 : decode cX7_slips 140 = .ok (.iadd, 1) := by decide +kernel
theorem dX7_slips_141 : decode cX7_slips 141 = .ok (.istore 5, 2) := by decide +kernel
theorem dX7_slips_143 : decode cX7_slips 143 = .ok (.iinc 7 1, 3) := by decide +kernel
theorem dX7_slips_146 : decode cX7_slips 146 = .ok (.goto (-72), 3) := by decide +kernel
theorem dX7_slips_149 : decode cX7_slips 149 = .ok (.iload 5, 2) := by decide +kernel
theorem dX7_slips_151 : decode cX7_slips 151 = .ok (.iload 6, 2) := by decide +kernel
theorem dX7_slips_153 : decode cX7_slips 153 = .ok (.invokestatic 197, 3) := by decide +kernel
theorem dX7_slips_156 : decode cX7_slips 156 = .ok (.istore 7, 2) := by decide +kernel
theorem dX7_slips_158 : decode cX7_slips 158 = .ok (.iload 4, 2) := by decide +kernel
theorem dX7_slips_160 : decode cX7_slips 160 = .ok (.ifCond .eq 11, 3) := by decide +kernel
theorem dX7_slips_163 : decode cX7_slips 163 = .ok (.iload 5, 2) := by decide +kernel
theorem dX7_slips_165 : decode cX7_slips 165 = .ok (.iload 7, 2) := by decide +kernel
theorem dX7_slips_167 : decode cX7_slips 167 = .ok (.idiv, 1) := by decide +kernel
theorem dX7_slips_168 : decode cX7_slips 168 = .ok (.goto 8, 3) := by decide +kernel
theorem dX7_slips_171 : decode cX7_slips 171 = .ok (.iload 6, 2) := by decide +kernel
theorem dX7_slips_173 : decode cX7_slips 173 = .ok (.iload 7, 2) := by decide +kernel
theorem dX7_slips_175 : decode cX7_slips 175 = .ok (.idiv, 1) := by decide +kernel
theorem dX7_slips_176 : decode cX7_slips 176 = .ok (.ireturn, 1) := by decide +kernel
theorem dX7_seed_0 : decode cX7_seed 0 = .ok (.aload_n 0, 1) := by decide +kernel
theorem dX7_seed_1 : decode cX7_seed 1 = .ok (.iconst 0, 1) := by decide +kernel
theorem dX7_seed_2 : decode cX7_seed 2 = .ok (.putfield 71, 3) := by decide +kernel
theorem dX7_seed_5 : decode cX7_seed 5 = .ok (.aload_n 0, 1) := by decide +kernel
theorem dX7_seed_6 : decode cX7_seed 6 = .ok (.getfield 200, 3) := by decide +kernel
theorem dX7_seed_9 : decode cX7_seed 9 = .ok (.lstore_n 3, 1) := by decide +kernel
theorem dX7_seed_10 : decode cX7_seed 10 = .ok (.aload_n 0, 1) := by decide +kernel
theorem dX7_seed_11 : decode cX7_seed 11 = .ok (.lload_n 1, 1) := by decide +kernel
theorem dX7_seed_12 : decode cX7_seed 12 = .ok (.putfield 200, 3) := by decide +kernel
theorem dX7_seed_15 : decode cX7_seed 15 = .ok (.lload_n 3, 1) := by decide +kernel
theorem dX7_seed_16 : decode cX7_seed 16 = .ok (.lreturn, 1) := by decide +kernel
set_option maxRecDepth 20000 in
theorem ggX7_years_X7_in : GoodIn wsX7_years wsX7_in := goodIn_r _ [10] (by decide +kernel) (by decide +kernel)
set_option maxRecDepth 20000 in
theorem gX7_years_X7_in : GoodIn wsX7_years (va_wsS RX7 78 yX7_in wsX7_in) := goodIn_app (goodIn_of _ (by decide +kernel)) ggX7_years_X7_in
set_option maxRecDepth 20000 in
theorem ggX7_years_X7_brokenBy : GoodIn wsX7_years wsX7_brokenBy := goodIn_r _ [14, 15, 16, 17, 18, 9, 19, 20, 21, 22, 23, 24, 25, 26, 27, 28, 29, 30, 31, 35, 36, 37, 38, 39, 40, 41, 42, 43, 44, 45, 46, 47, 48, 49, 50, 51, 52, 53, 54, 55, 56, 57, 58, 59, 60, 61, 62, 63, 64, 65, 66, 67, 68] (by decide +kernel) (by decide +kernel)
set_option maxRecDepth 20000 in
theorem gX7_years_X7_brokenBy : GoodIn wsX7_years (wsV RX7 157 RX7 yX7_brokenBy wsX7_brokenBy) := goodIn_app (goodIn_of _ (by decide +kernel)) ggX7_years_X7_brokenBy
set_option maxRecDepth 20000 in
theorem ggX7_years_X7_many : GoodIn wsX7_years wsX7_many := goodIn_r _ [34] (by decide +kernel) (by decide +kernel)
set_option maxRecDepth 20000 in
theorem gX7_years_X7_many : GoodIn wsX7_years (va_wsS RX7 174 yX7_many wsX7_many) := goodIn_app (goodIn_of _ (by decide +kernel)) ggX7_years_X7_many
theorem dX7_years_0 : decode cX7_years 0 = .ok (.aload_n 0, 1) := by decide +kernel
theorem dX7_years_1 : decode cX7_years 1 = .ok (.iconst 0, 1) := by decide +kernel
theorem dX7_years_2 : decode cX7_years 2 = .ok (.putfield 71, 3) := by decide +kernel
theorem dX7_years_5 : decode cX7_years 5 = .ok (.iload_n 1, 1) := by decide +kernel
theorem dX7_years_6 : decode cX7_years 6 = .ok (.i2l, 1) := by decide +kernel
theorem dX7_years_7 : decode cX7_years 7 = .ok (.lconst 1, 1) := by decide +kernel
theorem dX7_years_8 : decode cX7_years 8 = .ok (.ldc2_w 204, 3) := by decide +kernel
theorem dX7_years_11 : decode cX7_years 11 = .ok (.invokestatic 78, 3) := by decide +kernel
theorem dX7_years_14 : decode cX7_years 14 = .ok (.ifCond .ne 6, 3) := by decide +kernel
theorem dX7_years_17 : decode cX7_years 17 = .ok (.bipush (-2), 2) := by decide +kernel
theorem dX7_years_19 : decode cX7_years 19 = .ok (.ireturn, 1) := by decide +kernel
theorem dX7_years_20 : decode cX7_years 20 = .ok (.iconst 0, 1) := by decide +kernel
theorem dX7_years_21 : decode cX7_years 21 = .ok (.istore_n 2, 1) := by decide +kernel
theorem dX7_years_22 : decode cX7_years 22 = .ok (.iconst 0, 1) := by decide +kernel
theorem dX7_years_23 : decode cX7_years 23 = .ok (.istore_n 3, 1) := by decide +kernel
theorem dX7_years_24 : decode cX7_years 24 = .ok (.iload_n 3, 1) := by decide +kernel
theorem dX7_years_25 : decode cX7_years 25 = .ok (.iload_n 1, 1) := by decide +kernel
theorem dX7_years_26 : decode cX7_years 26 = .ok (.if_icmp .ge 47, 3) := by decide +kernel
theorem dX7_years_29 : decode cX7_years 29 = .ok (.aload_n 0, 1) := by decide +kernel
theorem dX7_years_30 : decode cX7_years 30 = .ok (.aload_n 0, 1) := by decide +kernel
theorem dX7_years_31 : decode cX7_years 31 = .ok (.getfield 200, 3) := by decide +kernel
theorem dX7_years_34 : decode cX7_years 34 = .ok (.ldc2_w 206, 3) := by decide +kernel
theorem dX7_years_37 : decode cX7_years 37 = .ok (.lmul, 1) := by decide +kernel
theorem dX7_years_38 : decode cX7_years 38 = .ok (.ldc2_w 208, 3) := by decide +kernel
theorem dX7_years_41 : decode cX7_years 41 = .ok (.ladd, 1) := by decide +kernel
theorem dX7_years_42 : decode cX7_years 42 = .ok (.putfield 200, 3) := by decide +kernel
theorem dX7_years_45 : decode cX7_years 45 = .ok (.iload_n 2, 1) := by decide +kernel
theorem dX7_years_46 : decode cX7_years 46 = .ok (.aload_n 0, 1) := by decide +kernel
theorem dX7_years_47 : decode cX7_years 47 = .ok (.aload_n 0, 1) := by decide +kernel
theorem dX7_years_48 : decode cX7_years 48 = .ok (.getfield 200, 3) := by decide +kernel
theorem dX7_years_51 : decode cX7_years 51 = .ok (.bipush 33, 2) := by decide +kernel
theorem dX7_years_53 : decode cX7_years 53 = .ok (.lushr, 1) := by decide +kernel
theorem dX7_years_54 : decode cX7_years 54 = .ok (.ldc2_w 210, 3) := by decide +kernel
theorem dX7_years_57 : decode cX7_years 57 = .ok (.lrem, 1) := by decide +kernel
theorem dX7_years_58 : decode cX7_years 58 = .ok (.l2i, 1) := by decide +kernel
theorem dX7_years_59 : decode cX7_years 59 = .ok (.invokevirtual 157, 3) := by decide +kernel
theorem dX7_years_62 : decode cX7_years 62 = .ok (.invokestatic 174, 3) := by decide +kernel
theorem dX7_years_65 : decode cX7_years 65 = .ok (.iadd, 1) := by decide +kernel
theorem dX7_years_66 : decode cX7_years 66 = .ok (.istore_n 2, 1) := by decide +kernel
theorem dX7_years_67 : decode cX7_years 67 = .ok (.iinc 3 1, 3) := by decide +kernel
theorem dX7_years_70 : decode cX7_years 70 = .ok (.goto (-46), 3) := by decide +kernel
theorem dX7_years_73 : decode cX7_years 73 = .ok (.iload_n 2, 1) := by decide +kernel
theorem dX7_years_74 : decode cX7_years 74 = .ok (.ireturn, 1) := by decide +kernel
set_option maxRecDepth 20000 in
theorem ggX7_keep_X7_in : GoodIn wsX7_keep wsX7_in := goodIn_r _ [8] (by decide +kernel) (by decide +kernel)
set_option maxRecDepth 20000 in
theorem gX7_keep_X7_in : GoodIn wsX7_keep (va_wsS RX7 78 yX7_in wsX7_in) := goodIn_app (goodIn_of _ (by decide +kernel)) ggX7_keep_X7_in
set_option maxRecDepth 20000 in
theorem ggX7_keep_X7_brokenBy : GoodIn wsX7_keep wsX7_brokenBy := goodIn_r _ [12, 13, 4, 14, 15, 7, 16, 17, 18, 19, 20, 21, 22, 23, 24, 25, 26, 27, 28, 32, 33, 34, 35, 36, 37, 38, 39, 40, 41, 42, 43, 44, 45, 46, 47, 48, 49, 50, 51, 52, 53, 54, 55, 56, 57, 58, 59, 60, 61, 62, 63, 64, 65] (by decide +kernel) (by decide +kernel)
set_option maxRecDepth 20000 in
theorem gX7_keep_X7_brokenBy : GoodIn wsX7_keep (wsV RX7 157 RX7 yX7_brokenBy wsX7_brokenBy) := goodIn_app (goodIn_of _ (by decide +kernel)) ggX7_keep_X7_brokenBy
set_option maxRecDepth 20000 in
theorem ggX7_keep_X7_many : GoodIn wsX7_keep wsX7_many := goodIn_r _ [31] (by decide +kernel) (by decide +kernel)
set_option maxRecDepth 20000 in
theorem gX7_keep_X7_many : GoodIn wsX7_keep (va_wsS RX7 174 yX7_many wsX7_many) := goodIn_app (goodIn_of _ (by decide +kernel)) ggX7_keep_X7_many
theorem dX7_keep_0 : decode cX7_keep 0 = .ok (.aload_n 0, 1) := by decide +kernel
theorem dX7_keep_1 : decode cX7_keep 1 = .ok (.iconst 0, 1) := by decide +kernel
theorem dX7_keep_2 : decode cX7_keep 2 = .ok (.putfield 71, 3) := by decide +kernel
theorem dX7_keep_5 : decode cX7_keep 5 = .ok (.iload_n 1, 1) := by decide +kernel
theorem dX7_keep_6 : decode cX7_keep 6 = .ok (.i2l, 1) := by decide +kernel
theorem dX7_keep_7 : decode cX7_keep 7 = .ok (.lconst 0, 1) := by decide +kernel
theorem dX7_keep_8 : decode cX7_keep 8 = .ok (.lconst 1, 1) := by decide +kernel
theorem dX7_keep_9 : decode cX7_keep 9 = .ok (.invokestatic 78, 3) := by decide +kernel
theorem dX7_keep_12 : decode cX7_keep 12 = .ok (.ifCond .ne 5, 3) := by decide +kernel
theorem dX7_keep_15 : decode cX7_keep 15 = .ok (.iconst (-1), 1) := by decide +kernel
theorem dX7_keep_16 : decode cX7_keep 16 = .ok (.ireturn, 1) := by decide +kernel
theorem dX7_keep_17 : decode cX7_keep 17 = .ok (.aload_n 0, 1) := by decide +kernel
theorem dX7_keep_18 : decode cX7_keep 18 = .ok (.getfield 46, 3) := by decide +kernel
theorem dX7_keep_21 : decode cX7_keep 21 = .ok (.iload_n 1, 1) := by decide +kernel
theorem dX7_keep_22 : decode cX7_keep 22 = .ok (.iconst 1, 1) := by decide +kernel
theorem dX7_keep_23 : decode cX7_keep 23 = .ok (.bastore, 1) := by decide +kernel
theorem dX7_keep_24 : decode cX7_keep 24 = .ok (.iconst 0, 1) := by decide +kernel
theorem dX7_keep_25 : decode cX7_keep 25 = .ok (.istore_n 2, 1) := by decide +kernel
theorem dX7_keep_26 : decode cX7_keep 26 = .ok (.iload_n 2, 1) := by decide +kernel
theorem dX7_keep_27 : decode cX7_keep 27 = .ok (.bipush 12, 2) := by decide +kernel
theorem dX7_keep_29 : decode cX7_keep 29 = .ok (.if_icmp .ge 26, 3) := by decide +kernel
theorem dX7_keep_32 : decode cX7_keep 32 = .ok (.aload_n 0, 1) := by decide +kernel
theorem dX7_keep_33 : decode cX7_keep 33 = .ok (.getfield 43, 3) := by decide +kernel
theorem dX7_keep_36 : decode cX7_keep 36 = .ok (.bipush 12, 2) := by decide +kernel
theorem dX7_keep_38 : decode cX7_keep 38 = .ok (.iload_n 1, 1) := by decide +kernel
theorem dX7_keep_39 : decode cX7_keep 39 = .ok (.imul, 1) := by decide +kernel
theorem dX7_keep_40 : decode cX7_keep 40 = .ok (.iload_n 2, 1) := by decide +kernel
theorem dX7_keep_41 : decode cX7_keep 41 = .ok (.iadd, 1) := by decide +kernel
theorem dX7_keep_42 : decode cX7_keep 42 = .ok (.aload_n 0, 1) := by decide +kernel
theorem dX7_keep_43 : decode cX7_keep 43 = .ok (.getfield 37, 3) := by decide +kernel
theorem dX7_keep_46 : decode cX7_keep 46 = .ok (.iload_n 2, 1) := by decide +kernel
theorem dX7_keep_47 : decode cX7_keep 47 = .ok (.iaload, 1) := by decide +kernel
theorem dX7_keep_48 : decode cX7_keep 48 = .ok (.iastore, 1) := by decide +kernel
theorem dX7_keep_49 : decode cX7_keep 49 = .ok (.iinc 2 1, 3) := by decide +kernel
theorem dX7_keep_52 : decode cX7_keep 52 = .ok (.goto (-26), 3) := by decide +kernel
theorem dX7_keep_55 : decode cX7_keep 55 = .ok (.aload_n 0, 1) := by decide +kernel
theorem dX7_keep_56 : decode cX7_keep 56 = .ok (.aload_n 0, 1) := by decide +kernel
theorem dX7_keep_57 : decode cX7_keep 57 = .ok (.getfield 37, 3) := by decide +kernel
theorem dX7_keep_60 : decode cX7_keep 60 = .ok (.iconst 0, 1) := by decide +kernel
theorem dX7_keep_61 : decode cX7_keep 61 = .ok (.iaload, 1) := by decide +kernel
theorem dX7_keep_62 : decode cX7_keep 62 = .ok (.invokevirtual 157, 3) := by decide +kernel
theorem dX7_keep_65 : decode cX7_keep 65 = .ok (.invokestatic 174, 3) := by decide +kernel
theorem dX7_keep_68 : decode cX7_keep 68 = .ok (.ireturn, 1) := by decide +kernel
set_option maxRecDepth 20000 in
theorem ggX7_again_X7_in : GoodIn wsX7_again wsX7_in := goodIn_r _ [9] (by decide +kernel) (by decide +kernel)
set_option maxRecDepth 20000 in
theorem gX7_again_X7_in : GoodIn wsX7_again (va_wsS RX7 78 yX7_in wsX7_in) := goodIn_app (goodIn_of _ (by decide +kernel)) ggX7_again_X7_in
set_option maxRecDepth 20000 in
theorem ggX7_again_X7_brokenBy : GoodIn wsX7_again wsX7_brokenBy := goodIn_r _ [13, 14, 3, 15, 16, 8, 17, 18, 19, 20, 21, 22, 23, 24, 25, 26, 27, 28, 29, 33, 34, 35, 36, 37, 38, 39, 40, 41, 42, 43, 44, 45, 46, 47, 48, 49, 50, 51, 52, 53, 54, 55, 56, 57, 58, 59, 60, 61, 62, 63, 64, 65, 66] (by decide +kernel) (by decide +kernel)
set_option maxRecDepth 20000 in
theorem gX7_again_X7_brokenBy : GoodIn wsX7_again (wsV RX7 157 RX7 yX7_brokenBy wsX7_brokenBy) := goodIn_app (goodIn_of _ (by decide +kernel)) ggX7_again_X7_brokenBy
set_option maxRecDepth 20000 in
theorem ggX7_again_X7_many : GoodIn wsX7_again wsX7_many := goodIn_r _ [32] (by decide +kernel) (by decide +kernel)
set_option maxRecDepth 20000 in
theorem gX7_again_X7_many : GoodIn wsX7_again (va_wsS RX7 174 yX7_many wsX7_many) := goodIn_app (goodIn_of _ (by decide +kernel)) ggX7_again_X7_many
theorem dX7_again_0 : decode cX7_again 0 = .ok (.aload_n 0, 1) := by decide +kernel
theorem dX7_again_1 : decode cX7_again 1 = .ok (.iconst 0, 1) := by decide +kernel
theorem dX7_again_2 : decode cX7_again 2 = .ok (.putfield 71, 3) := by decide +kernel
theorem dX7_again_5 : decode cX7_again 5 = .ok (.iload_n 1, 1) := by decide +kernel
theorem dX7_again_6 : decode cX7_again 6 = .ok (.i2l, 1) := by decide +kernel
theorem dX7_again_7 : decode cX7_again 7 = .ok (.lconst 0, 1) := by decide +kernel
theorem dX7_again_8 : decode cX7_again 8 = .ok (.lconst 1, 1) := by decide +kernel
theorem dX7_again_9 : decode cX7_again 9 = .ok (.invokestatic 78, 3) := by decide +kernel
theorem dX7_again_12 : decode cX7_again 12 = .ok (.ifCond .ne 5, 3) := by decide +kernel
theorem dX7_again_15 : decode cX7_again 15 = .ok (.iconst (-1), 1) := by decide +kernel
theorem dX7_again_16 : decode cX7_again 16 = .ok (.ireturn, 1) := by decide +kernel
theorem dX7_again_17 : decode cX7_again 17 = .ok (.aload_n 0, 1) := by decide +kernel
theorem dX7_again_18 : decode cX7_again 18 = .ok (.getfield 46, 3) := by decide +kernel
theorem dX7_again_21 : decode cX7_again 21 = .ok (.iload_n 1, 1) := by decide +kernel
theorem dX7_again_22 : decode cX7_again 22 = .ok (.baload, 1) := by decide +kernel
theorem dX7_again_23 : decode cX7_again 23 = .ok (.ifCond .ne 6, 3) := by decide +kernel
theorem dX7_again_26 : decode cX7_again 26 = .ok (.bipush (-3), 2) := by decide +kernel
theorem dX7_again_28 : decode cX7_again 28 = .ok (.ireturn, 1) := by decide +kernel
theorem dX7_again_29 : decode cX7_again 29 = .ok (.iconst 0, 1) := by decide +kernel
theorem dX7_again_30 : decode cX7_again 30 = .ok (.istore_n 2, 1) := by decide +kernel
theorem dX7_again_31 : decode cX7_again 31 = .ok (.iload_n 2, 1) := by decide +kernel
theorem dX7_again_32 : decode cX7_again 32 = .ok (.bipush 12, 2) := by decide +kernel
theorem dX7_again_34 : decode cX7_again 34 = .ok (.if_icmp .ge 26, 3) := by decide +kernel
theorem dX7_again_37 : decode cX7_again 37 = .ok (.aload_n 0, 1) := by decide +kernel
theorem dX7_again_38 : decode cX7_again 38 = .ok (.getfield 37, 3) := by decide +kernel
theorem dX7_again_41 : decode cX7_again 41 = .ok (.iload_n 2, 1) := by decide +kernel
theorem dX7_again_42 : decode cX7_again 42 = .ok (.aload_n 0, 1) := by decide +kernel
theorem dX7_again_43 : decode cX7_again 43 = .ok (.getfield 43, 3) := by decide +kernel
theorem dX7_again_46 : decode cX7_again 46 = .ok (.bipush 12, 2) := by decide +kernel
theorem dX7_again_48 : decode cX7_again 48 = .ok (.iload_n 1, 1) := by decide +kernel
theorem dX7_again_49 : decode cX7_again 49 = .ok (.imul, 1) := by decide +kernel
theorem dX7_again_50 : decode cX7_again 50 = .ok (.iload_n 2, 1) := by decide +kernel
theorem dX7_again_51 : decode cX7_again 51 = .ok (.iadd, 1) := by decide +kernel
theorem dX7_again_52 : decode cX7_again 52 = .ok (.iaload, 1) := by decide +kernel
theorem dX7_again_53 : decode cX7_again 53 = .ok (.iastore, 1) := by decide +kernel
theorem dX7_again_54 : decode cX7_again 54 = .ok (.iinc 2 1, 3) := by decide +kernel
theorem dX7_again_57 : decode cX7_again 57 = .ok (.goto (-26), 3) := by decide +kernel
theorem dX7_again_60 : decode cX7_again 60 = .ok (.aload_n 0, 1) := by decide +kernel
theorem dX7_again_61 : decode cX7_again 61 = .ok (.iconst 0, 1) := by decide +kernel
theorem dX7_again_62 : decode cX7_again 62 = .ok (.putfield 140, 3) := by decide +kernel
theorem dX7_again_65 : decode cX7_again 65 = .ok (.aload_n 0, 1) := by decide +kernel
theorem dX7_again_66 : decode cX7_again 66 = .ok (.aload_n 0, 1) := by decide +kernel
theorem dX7_again_67 : decode cX7_again 67 = .ok (.getfield 37, 3) := by decide +kernel
theorem dX7_again_70 : decode cX7_again 70 = .ok (.iconst 0, 1) := by decide +kernel
theorem dX7_again_71 : decode cX7_again 71 = .ok (.iaload, 1) := by decide +kernel
theorem dX7_again_72 : decode cX7_again 72 = .ok (.invokevirtual 157, 3) := by decide +kernel
theorem dX7_again_75 : decode cX7_again 75 = .ok (.invokestatic 174, 3) := by decide +kernel
theorem dX7_again_78 : decode cX7_again 78 = .ok (.ireturn, 1) := by decide +kernel
