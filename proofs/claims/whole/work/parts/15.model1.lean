theorem dX9_thrown_0 : decode cX9_thrown 0 = .ok (.aload_n 0, 1) := by decide +kernel
theorem dX9_thrown_1 : decode cX9_thrown 1 = .ok (.getfield 35, 3) := by decide +kernel
theorem dX9_thrown_4 : decode cX9_thrown 4 = .ok (.ireturn, 1) := by decide +kernel
theorem dX9_reset_0 : decode cX9_reset 0 = .ok (.aload_n 0, 1) := by decide +kernel
theorem dX9_reset_1 : decode cX9_reset 1 = .ok (.iconst 0, 1) := by decide +kernel
theorem dX9_reset_2 : decode cX9_reset 2 = .ok (.putfield 35, 3) := by decide +kernel
theorem dX9_reset_5 : decode cX9_reset 5 = .ok (.aload_n 0, 1) := by decide +kernel
theorem dX9_reset_6 : decode cX9_reset 6 = .ok (.iconst 0, 1) := by decide +kernel
theorem dX9_reset_7 : decode cX9_reset 7 = .ok (.putfield 39, 3) := by decide +kernel
theorem dX9_reset_10 : decode cX9_reset 10 = .ok (.aload_n 0, 1) := by decide +kernel
theorem dX9_reset_11 : decode cX9_reset 11 = .ok (.iconst 0, 1) := by decide +kernel
theorem dX9_reset_12 : decode cX9_reset 12 = .ok (.putfield 42, 3) := by decide +kernel
theorem dX9_reset_15 : decode cX9_reset 15 = .ok (.aload_n 0, 1) := by decide +kernel
theorem dX9_reset_16 : decode cX9_reset 16 = .ok (.iconst 0, 1) := by decide +kernel
theorem dX9_reset_17 : decode cX9_reset 17 = .ok (.putfield 45, 3) := by decide +kernel
theorem dX9_reset_20 : decode cX9_reset 20 = .ok (.aload_n 0, 1) := by decide +kernel
theorem dX9_reset_21 : decode cX9_reset 21 = .ok (.iconst 0, 1) := by decide +kernel
theorem dX9_reset_22 : decode cX9_reset 22 = .ok (.putfield 48, 3) := by decide +kernel
theorem dX9_reset_25 : decode cX9_reset 25 = .ok (.aload_n 0, 1) := by decide +kernel
theorem dX9_reset_26 : decode cX9_reset 26 = .ok (.iconst 1, 1) := by decide +kernel
theorem dX9_reset_27 : decode cX9_reset 27 = .ok (.putfield 52, 3) := by decide +kernel
theorem dX9_reset_30 : decode cX9_reset 30 = .ok (.aload_n 0, 1) := by decide +kernel
theorem dX9_reset_31 : decode cX9_reset 31 = .ok (.iconst 0, 1) := by decide +kernel
theorem dX9_reset_32 : decode cX9_reset 32 = .ok (.putfield 55, 3) := by decide +kernel
theorem dX9_reset_35 : decode cX9_reset 35 = .ok (.aload_n 0, 1) := by decide +kernel
theorem dX9_reset_36 : decode cX9_reset 36 = .ok (.iconst 0, 1) := by decide +kernel
theorem dX9_reset_37 : decode cX9_reset 37 = .ok (.putfield 58, 3) := by decide +kernel
theorem dX9_reset_40 : decode cX9_reset 40 = .ok (.aload_n 0, 1) := by decide +kernel
theorem dX9_reset_41 : decode cX9_reset 41 = .ok (.iconst 0, 1) := by decide +kernel
theorem dX9_reset_42 : decode cX9_reset 42 = .ok (.putfield 61, 3) := by decide +kernel
theorem dX9_reset_45 : decode cX9_reset 45 = .ok (.aload_n 0, 1) := by decide +kernel
theorem dX9_reset_46 : decode cX9_reset 46 = .ok (.iconst 0, 1) := by decide +kernel
theorem dX9_reset_47 : decode cX9_reset 47 = .ok (.putfield 64, 3) := by decide +kernel
theorem dX9_reset_50 : decode cX9_reset 50 = .ok (.aload_n 0, 1) := by decide +kernel
theorem dX9_reset_51 : decode cX9_reset 51 = .ok (.iconst 0, 1) := by decide +kernel
theorem dX9_reset_52 : decode cX9_reset 52 = .ok (.putfield 67, 3) := by decide +kernel
theorem dX9_reset_55 : decode cX9_reset 55 = .ok (.aload_n 0, 1) := by decide +kernel
theorem dX9_reset_56 : decode cX9_reset 56 = .ok (.iconst 0, 1) := by decide +kernel
theorem dX9_reset_57 : decode cX9_reset 57 = .ok (.putfield 70, 3) := by decide +kernel
theorem dX9_reset_60 : decode cX9_reset 60 = .ok (.aload_n 0, 1) := by decide +kernel
theorem dX9_reset_61 : decode cX9_reset 61 = .ok (.iconst 0, 1) := by decide +kernel
theorem dX9_reset_62 : decode cX9_reset 62 = .ok (.putfield 73, 3) := by decide +kernel
theorem dX9_reset_65 : decode cX9_reset 65 = .ok (.aload_n 0, 1) := by decide +kernel
theorem dX9_reset_66 : decode cX9_reset 66 = .ok (.iconst 0, 1) := by decide +kernel
theorem dX9_reset_67 : decode cX9_reset 67 = .ok (.putfield 76, 3) := by decide +kernel
theorem dX9_reset_70 : decode cX9_reset 70 = .ok (.aload_n 0, 1) := by decide +kernel
theorem dX9_reset_71 : decode cX9_reset 71 = .ok (.iconst 0, 1) := by decide +kernel
theorem dX9_reset_72 : decode cX9_reset 72 = .ok (.putfield 79, 3) := by decide +kernel
theorem dX9_reset_75 : decode cX9_reset 75 = .ok (.aload_n 0, 1) := by decide +kernel
theorem dX9_reset_76 : decode cX9_reset 76 = .ok (.iconst 0, 1) := by decide +kernel
theorem dX9_reset_77 : decode cX9_reset 77 = .ok (.putfield 82, 3) := by decide +kernel
theorem dX9_reset_80 : decode cX9_reset 80 = .ok (.aload_n 0, 1) := by decide +kernel
theorem dX9_reset_81 : decode cX9_reset 81 = .ok (.iconst 0, 1) := by decide +kernel
theorem dX9_reset_82 : decode cX9_reset 82 = .ok (.putfield 85, 3) := by decide +kernel
theorem dX9_reset_85 : decode cX9_reset 85 = .ok (.aload_n 0, 1) := by decide +kernel
theorem dX9_reset_86 : decode cX9_reset 86 = .ok (.iconst 0, 1) := by decide +kernel
theorem dX9_reset_87 : decode cX9_reset 87 = .ok (.putfield 88, 3) := by decide +kernel
theorem dX9_reset_90 : decode cX9_reset 90 = .ok (.aload_n 0, 1) := by decide +kernel
theorem dX9_reset_91 : decode cX9_reset 91 = .ok (.iconst 1, 1) := by decide +kernel
theorem dX9_reset_92 : decode cX9_reset 92 = .ok (.putfield 91, 3) := by decide +kernel
theorem dX9_reset_95 : decode cX9_reset 95 = .ok (.aload_n 0, 1) := by decide +kernel
theorem dX9_reset_96 : decode cX9_reset 96 = .ok (.iconst 0, 1) := by decide +kernel
theorem dX9_reset_97 : decode cX9_reset 97 = .ok (.putfield 94, 3) := by decide +kernel
theorem dX9_reset_100 : decode cX9_reset 100 = .ok (.aload_n 0, 1) := by decide +kernel
theorem dX9_reset_101 : decode cX9_reset 101 = .ok (.iconst 1, 1) := by decide +kernel
theorem dX9_reset_102 : decode cX9_reset 102 = .ok (.putfield 97, 3) := by decide +kernel
theorem dX9_reset_105 : decode cX9_reset 105 = .ok (.aload_n 0, 1) := by decide +kernel
theorem dX9_reset_106 : decode cX9_reset 106 = .ok (.iconst 0, 1) := by decide +kernel
theorem dX9_reset_107 : decode cX9_reset 107 = .ok (.putfield 100, 3) := by decide +kernel
theorem dX9_reset_110 : decode cX9_reset 110 = .ok (.aload_n 0, 1) := by decide +kernel
theorem dX9_reset_111 : decode cX9_reset 111 = .ok (.iconst 1, 1) := by decide +kernel
theorem dX9_reset_112 : decode cX9_reset 112 = .ok (.putfield 103, 3) := by decide +kernel
theorem dX9_reset_115 : decode cX9_reset 115 = .ok (.aload_n 0, 1) := by decide +kernel
theorem dX9_reset_116 : decode cX9_reset 116 = .ok (.iconst 0, 1) := by decide +kernel
theorem dX9_reset_117 : decode cX9_reset 117 = .ok (.putfield 106, 3) := by decide +kernel
theorem dX9_reset_120 : decode cX9_reset 120 = .ok (.aload_n 0, 1) := by decide +kernel
theorem dX9_reset_121 : decode cX9_reset 121 = .ok (.iconst 1, 1) := by decide +kernel
theorem dX9_reset_122 : decode cX9_reset 122 = .ok (.putfield 109, 3) := by decide +kernel
theorem dX9_reset_125 : decode cX9_reset 125 = .ok (.aload_n 0, 1) := by decide +kernel
theorem dX9_reset_126 : decode cX9_reset 126 = .ok (.iconst 0, 1) := by decide +kernel
theorem dX9_reset_127 : decode cX9_reset 127 = .ok (.putfield 112, 3) := by decide +kernel
theorem dX9_reset_130 : decode cX9_reset 130 = .ok (.return_, 1) := by decide +kernel
theorem dX9_dlab_0 : decode cX9_dlab 0 = .ok (.aload_n 0, 1) := by decide +kernel
theorem dX9_dlab_1 : decode cX9_dlab 1 = .ok (.getfield 55, 3) := by decide +kernel
theorem dX9_dlab_4 : decode cX9_dlab 4 = .ok (.sipush 128, 3) := by decide +kernel
theorem dX9_dlab_7 : decode cX9_dlab 7 = .ok (.iand, 1) := by decide +kernel
theorem dX9_dlab_8 : decode cX9_dlab 8 = .ok (.ifCond .eq 7, 3) := by decide +kernel
theorem dX9_dlab_11 : decode cX9_dlab 11 = .ok (.iconst 1, 1) := by decide +kernel
theorem dX9_dlab_12 : decode cX9_dlab 12 = .ok (.goto 4, 3) := by decide +kernel
theorem dX9_dlab_15 : decode cX9_dlab 15 = .ok (.iconst 0, 1) := by decide +kernel
theorem dX9_dlab_16 : decode cX9_dlab 16 = .ok (.ireturn, 1) := by decide +kernel
theorem dX9_loops_0 : decode cX9_loops 0 = .ok (.aload_n 0, 1) := by decide +kernel
theorem dX9_loops_1 : decode cX9_loops 1 = .ok (.getfield 58, 3) := by decide +kernel
theorem dX9_loops_4 : decode cX9_loops 4 = .ok (.bipush 16, 2) := by decide +kernel
theorem dX9_loops_6 : decode cX9_loops 6 = .ok (.iand, 1) := by decide +kernel
theorem dX9_loops_7 : decode cX9_loops 7 = .ok (.ifCond .eq 7, 3) := by decide +kernel
theorem dX9_loops_10 : decode cX9_loops 10 = .ok (.iconst 1, 1) := by decide +kernel
theorem dX9_loops_11 : decode cX9_loops 11 = .ok (.goto 4, 3) := by decide +kernel
theorem dX9_loops_14 : decode cX9_loops 14 = .ok (.iconst 0, 1) := by decide +kernel
theorem dX9_loops_15 : decode cX9_loops 15 = .ok (.ireturn, 1) := by decide +kernel
theorem dX9_room_0 : decode cX9_room 0 = .ok (.aload_n 0, 1) := by decide +kernel
theorem dX9_room_1 : decode cX9_room 1 = .ok (.getfield 48, 3) := by decide +kernel
theorem dX9_room_4 : decode cX9_room 4 = .ok (.ifCond .eq 8, 3) := by decide +kernel
theorem dX9_room_7 : decode cX9_room 7 = .ok (.bipush 16, 2) := by decide +kernel
theorem dX9_room_9 : decode cX9_room 9 = .ok (.goto 4, 3) := by decide +kernel
theorem dX9_room_12 : decode cX9_room 12 = .ok (.iconst 1, 1) := by decide +kernel
theorem dX9_room_13 : decode cX9_room 13 = .ok (.ireturn, 1) := by decide +kernel
theorem dX9_bitsOf_0 : decode cX9_bitsOf 0 = .ok (.iconst 5, 1) := by decide +kernel
theorem dX9_bitsOf_1 : decode cX9_bitsOf 1 = .ok (.iload_n 0, 1) := by decide +kernel
theorem dX9_bitsOf_2 : decode cX9_bitsOf 2 = .ok (.iconst 3, 1) := by decide +kernel
theorem dX9_bitsOf_3 : decode cX9_bitsOf 3 = .ok (.iand, 1) := by decide +kernel
theorem dX9_bitsOf_4 : decode cX9_bitsOf 4 = .ok (.iadd, 1) := by decide +kernel
theorem dX9_bitsOf_5 : decode cX9_bitsOf 5 = .ok (.ireturn, 1) := by decide +kernel
theorem dX9_hasParity_0 : decode cX9_hasParity 0 = .ok (.iload_n 0, 1) := by decide +kernel
theorem dX9_hasParity_1 : decode cX9_hasParity 1 = .ok (.bipush 8, 2) := by decide +kernel
theorem dX9_hasParity_3 : decode cX9_hasParity 3 = .ok (.iand, 1) := by decide +kernel
theorem dX9_hasParity_4 : decode cX9_hasParity 4 = .ok (.ifCond .eq 7, 3) := by decide +kernel
theorem dX9_hasParity_7 : decode cX9_hasParity 7 = .ok (.iconst 1, 1) := by decide +kernel
theorem dX9_hasParity_8 : decode cX9_hasParity 8 = .ok (.goto 4, 3) := by decide +kernel
theorem dX9_hasParity_11 : decode cX9_hasParity 11 = .ok (.iconst 0, 1) := by decide +kernel
theorem dX9_hasParity_12 : decode cX9_hasParity 12 = .ok (.ireturn, 1) := by decide +kernel
theorem dX9_parityOf_0 : decode cX9_parityOf 0 = .ok (.iload_n 0, 1) := by decide +kernel
theorem dX9_parityOf_1 : decode cX9_parityOf 1 = .ok (.bipush 32, 2) := by decide +kernel
theorem dX9_parityOf_3 : decode cX9_parityOf 3 = .ok (.iand, 1) := by decide +kernel
theorem dX9_parityOf_4 : decode cX9_parityOf 4 = .ok (.ifCond .eq 16, 3) := by decide +kernel
theorem dX9_parityOf_7 : decode cX9_parityOf 7 = .ok (.iload_n 0, 1) := by decide +kernel
theorem dX9_parityOf_8 : decode cX9_parityOf 8 = .ok (.bipush 16, 2) := by decide +kernel
theorem dX9_parityOf_10 : decode cX9_parityOf 10 = .ok (.iand, 1) := by decide +kernel
theorem dX9_parityOf_11 : decode cX9_parityOf 11 = .ok (.ifCond .eq 7, 3) := by decide +kernel
theorem dX9_parityOf_14 : decode cX9_parityOf 14 = .ok (.iconst 0, 1) := by decide +kernel
theorem dX9_parityOf_15 : decode cX9_parityOf 15 = .ok (.goto 4, 3) := by decide +kernel
theorem dX9_parityOf_18 : decode cX9_parityOf 18 = .ok (.iconst 1, 1) := by decide +kernel
theorem dX9_parityOf_19 : decode cX9_parityOf 19 = .ok (.ireturn, 1) := by decide +kernel
theorem dX9_parityOf_20 : decode cX9_parityOf 20 = .ok (.iload_n 1, 1) := by decide +kernel
theorem dX9_parityOf_21 : decode cX9_parityOf 21 = .ok (.iconst 1, 1) := by decide +kernel
theorem dX9_parityOf_22 : decode cX9_parityOf 22 = .ok (.iload_n 0, 1) := by decide +kernel
theorem dX9_parityOf_23 : decode cX9_parityOf 23 = .ok (.invokestatic 115, 3) := by decide +kernel
theorem dX9_parityOf_26 : decode cX9_parityOf 26 = .ok (.ishl, 1) := by decide +kernel
theorem dX9_parityOf_27 : decode cX9_parityOf 27 = .ok (.iconst 1, 1) := by decide +kernel
theorem dX9_parityOf_28 : decode cX9_parityOf 28 = .ok (.isub, 1) := by decide +kernel
theorem dX9_parityOf_29 : decode cX9_parityOf 29 = .ok (.iand, 1) := by decide +kernel
theorem dX9_parityOf_30 : decode cX9_parityOf 30 = .ok (.invokestatic 119, 3) := by decide +kernel
theorem dX9_parityOf_33 : decode cX9_parityOf 33 = .ok (.iconst 1, 1) := by decide +kernel
theorem dX9_parityOf_34 : decode cX9_parityOf 34 = .ok (.iand, 1) := by decide +kernel
theorem dX9_parityOf_35 : decode cX9_parityOf 35 = .ok (.istore_n 2, 1) := by decide +kernel
theorem dX9_parityOf_36 : decode cX9_parityOf 36 = .ok (.iload_n 0, 1) := by decide +kernel
theorem dX9_parityOf_37 : decode cX9_parityOf 37 = .ok (.bipush 16, 2) := by decide +kernel
theorem dX9_parityOf_39 : decode cX9_parityOf 39 = .ok (.iand, 1) := by decide +kernel
theorem dX9_parityOf_40 : decode cX9_parityOf 40 = .ok (.ifCond .eq 7, 3) := by decide +kernel
theorem dX9_parityOf_43 : decode cX9_parityOf 43 = .ok (.iload_n 2, 1) := by decide +kernel
theorem dX9_parityOf_44 : decode cX9_parityOf 44 = .ok (.goto 6, 3) := by decide +kernel
theorem dX9_parityOf_47 : decode cX9_parityOf 47 = .ok (.iconst 1, 1) := by decide +kernel
theorem dX9_parityOf_48 : decode cX9_parityOf 48 = .ok (.iload_n 2, 1) := by decide +kernel
theorem dX9_parityOf_49 : decode cX9_parityOf 49 = .ok (.isub, 1) := by decide +kernel
theorem dX9_parityOf_50 : decode cX9_parityOf 50 = .ok (.ireturn, 1) := by decide +kernel
set_option maxRecDepth 20000 in
theorem ggX9_parityOf_X9_bitsOf : GoodIn wsX9_parityOf wsX9_bitsOf := goodIn_r _ [4] (by decide +kernel) (by decide +kernel)
set_option maxRecDepth 20000 in
theorem gX9_parityOf_X9_bitsOf : GoodIn wsX9_parityOf (va_wsS RX9 115 yX9_bitsOf wsX9_bitsOf) := goodIn_app (goodIn_of _ (by decide +kernel)) ggX9_parityOf_X9_bitsOf
set_option maxRecDepth 20000 in
theorem ggX9_parityOf_J6_bitCount_0f7a4 : GoodIn wsX9_parityOf wsJ6_bitCount_0f7a4 := goodIn_r _ [8, 9, 10, 11] (by decide +kernel) (by decide +kernel)
set_option maxRecDepth 20000 in
theorem gX9_parityOf_J6_bitCount_0f7a4 : GoodIn wsX9_parityOf (va_wsS RX9 119 yJ6_bitCount_0f7a4 wsJ6_bitCount_0f7a4) := goodIn_app (goodIn_of _ (by decide +kernel)) ggX9_parityOf_J6_bitCount_0f7a4
theorem dX9_stopOf_0 : decode cX9_stopOf 0 = .ok (.iload_n 0, 1) := by decide +kernel
theorem dX9_stopOf_1 : decode cX9_stopOf 1 = .ok (.iconst 4, 1) := by decide +kernel
theorem dX9_stopOf_2 : decode cX9_stopOf 2 = .ok (.iand, 1) := by decide +kernel
theorem dX9_stopOf_3 : decode cX9_stopOf 3 = .ok (.ifCond .ne 8, 3) := by decide +kernel
theorem dX9_stopOf_6 : decode cX9_stopOf 6 = .ok (.bipush 16, 2) := by decide +kernel
theorem dX9_stopOf_8 : decode cX9_stopOf 8 = .ok (.goto 18, 3) := by decide +kernel
theorem dX9_stopOf_11 : decode cX9_stopOf 11 = .ok (.iload_n 0, 1) := by decide +kernel
theorem dX9_stopOf_12 : decode cX9_stopOf 12 = .ok (.invokestatic 115, 3) := by decide +kernel
theorem dX9_stopOf_15 : decode cX9_stopOf 15 = .ok (.iconst 5, 1) := by decide +kernel
theorem dX9_stopOf_16 : decode cX9_stopOf 16 = .ok (.if_icmp .ne 8, 3) := by decide +kernel
theorem dX9_stopOf_19 : decode cX9_stopOf 19 = .ok (.bipush 24, 2) := by decide +kernel
theorem dX9_stopOf_21 : decode cX9_stopOf 21 = .ok (.goto 5, 3) := by decide +kernel
theorem dX9_stopOf_24 : decode cX9_stopOf 24 = .ok (.bipush 32, 2) := by decide +kernel
theorem dX9_stopOf_26 : decode cX9_stopOf 26 = .ok (.ireturn, 1) := by decide +kernel
set_option maxRecDepth 20000 in
theorem ggX9_stopOf_X9_bitsOf : GoodIn wsX9_stopOf wsX9_bitsOf := goodIn_r _ [4] (by decide +kernel) (by decide +kernel)
set_option maxRecDepth 20000 in
theorem gX9_stopOf_X9_bitsOf : GoodIn wsX9_stopOf (va_wsS RX9 115 yX9_bitsOf wsX9_bitsOf) := goodIn_app (goodIn_of _ (by decide +kernel)) ggX9_stopOf_X9_bitsOf
theorem dX9_frameOf_0 : decode cX9_frameOf 0 = .ok (.bipush 16, 2) := by decide +kernel
theorem dX9_frameOf_2 : decode cX9_frameOf 2 = .ok (.iconst 1, 1) := by decide +kernel
theorem dX9_frameOf_3 : decode cX9_frameOf 3 = .ok (.iload_n 0, 1) := by decide +kernel
theorem dX9_frameOf_4 : decode cX9_frameOf 4 = .ok (.invokestatic 115, 3) := by decide +kernel
theorem dX9_frameOf_7 : decode cX9_frameOf 7 = .ok (.iadd, 1) := by decide +kernel
theorem dX9_frameOf_8 : decode cX9_frameOf 8 = .ok (.iload_n 0, 1) := by decide +kernel
theorem dX9_frameOf_9 : decode cX9_frameOf 9 = .ok (.invokestatic 124, 3) := by decide +kernel
theorem dX9_frameOf_12 : decode cX9_frameOf 12 = .ok (.ifCond .eq 7, 3) := by decide +kernel
theorem dX9_frameOf_15 : decode cX9_frameOf 15 = .ok (.iconst 1, 1) := by decide +kernel
theorem dX9_frameOf_16 : decode cX9_frameOf 16 = .ok (.goto 4, 3) := by decide +kernel
theorem dX9_frameOf_19 : decode cX9_frameOf 19 = .ok (.iconst 0, 1) := by decide +kernel
theorem dX9_frameOf_20 : decode cX9_frameOf 20 = .ok (.iadd, 1) := by decide +kernel
theorem dX9_frameOf_21 : decode cX9_frameOf 21 = .ok (.imul, 1) := by decide +kernel
theorem dX9_frameOf_22 : decode cX9_frameOf 22 = .ok (.iload_n 0, 1) := by decide +kernel
theorem dX9_frameOf_23 : decode cX9_frameOf 23 = .ok (.invokestatic 128, 3) := by decide +kernel
theorem dX9_frameOf_26 : decode cX9_frameOf 26 = .ok (.iadd, 1) := by decide +kernel
theorem dX9_frameOf_27 : decode cX9_frameOf 27 = .ok (.ireturn, 1) := by decide +kernel
set_option maxRecDepth 20000 in
theorem ggX9_frameOf_X9_bitsOf : GoodIn wsX9_frameOf wsX9_bitsOf := goodIn_r _ [4] (by decide +kernel) (by decide +kernel)
set_option maxRecDepth 20000 in
theorem gX9_frameOf_X9_bitsOf : GoodIn wsX9_frameOf (va_wsS RX9 115 yX9_bitsOf wsX9_bitsOf) := goodIn_app (goodIn_of _ (by decide +kernel)) ggX9_frameOf_X9_bitsOf
set_option maxRecDepth 20000 in
theorem ggX9_frameOf_X9_hasParity : GoodIn wsX9_frameOf wsX9_hasParity := goodIn_r _ [7] (by decide +kernel) (by decide +kernel)
set_option maxRecDepth 20000 in
theorem gX9_frameOf_X9_hasParity : GoodIn wsX9_frameOf (va_wsS RX9 124 yX9_hasParity wsX9_hasParity) := goodIn_app (goodIn_of _ (by decide +kernel)) ggX9_frameOf_X9_hasParity
set_option maxRecDepth 20000 in
theorem ggX9_frameOf_X9_stopOf : GoodIn wsX9_frameOf wsX9_stopOf := goodIn_r _ [10, 1, 2, 3, 4] (by decide +kernel) (by decide +kernel)
set_option maxRecDepth 20000 in
theorem gX9_frameOf_X9_stopOf : GoodIn wsX9_frameOf (va_wsS RX9 128 yX9_stopOf wsX9_stopOf) := goodIn_app (goodIn_of _ (by decide +kernel)) ggX9_frameOf_X9_stopOf
theorem dX9_partOf_0 : decode cX9_partOf 0 = .ok (.iload_n 0, 1) := by decide +kernel
theorem dX9_partOf_1 : decode cX9_partOf 1 = .ok (.invokestatic 115, 3) := by decide +kernel
theorem dX9_partOf_4 : decode cX9_partOf 4 = .ok (.istore_n 3, 1) := by decide +kernel
theorem dX9_partOf_5 : decode cX9_partOf 5 = .ok (.iload_n 2, 1) := by decide +kernel
theorem dX9_partOf_6 : decode cX9_partOf 6 = .ok (.ifCond .ne 5, 3) := by decide +kernel
theorem dX9_partOf_9 : decode cX9_partOf 9 = .ok (.iconst 0, 1) := by decide +kernel
theorem dX9_partOf_10 : decode cX9_partOf 10 = .ok (.ireturn, 1) := by decide +kernel
theorem dX9_partOf_11 : decode cX9_partOf 11 = .ok (.iload_n 2, 1) := by decide +kernel
theorem dX9_partOf_12 : decode cX9_partOf 12 = .ok (.iload_n 3, 1) := by decide +kernel
theorem dX9_partOf_13 : decode cX9_partOf 13 = .ok (.if_icmp .gt 20, 3) := by decide +kernel
theorem dX9_partOf_16 : decode cX9_partOf 16 = .ok (.iload_n 1, 1) := by decide +kernel
theorem dX9_partOf_17 : decode cX9_partOf 17 = .ok (.iload_n 2, 1) := by decide +kernel
theorem dX9_partOf_18 : decode cX9_partOf 18 = .ok (.iconst 1, 1) := by decide +kernel
theorem dX9_partOf_19 : decode cX9_partOf 19 = .ok (.isub, 1) := by decide +kernel
theorem dX9_partOf_20 : decode cX9_partOf 20 = .ok (.ishr, 1) := by decide +kernel
theorem dX9_partOf_21 : decode cX9_partOf 21 = .ok (.iconst 1, 1) := by decide +kernel
theorem dX9_partOf_22 : decode cX9_partOf 22 = .ok (.iand, 1) := by decide +kernel
theorem dX9_partOf_23 : decode cX9_partOf 23 = .ok (.iconst 1, 1) := by decide +kernel
theorem dX9_partOf_24 : decode cX9_partOf 24 = .ok (.if_icmp .ne 7, 3) := by decide +kernel
theorem dX9_partOf_27 : decode cX9_partOf 27 = .ok (.iconst 1, 1) := by decide +kernel
theorem dX9_partOf_28 : decode cX9_partOf 28 = .ok (.goto 4, 3) := by decide +kernel
theorem dX9_partOf_31 : decode cX9_partOf 31 = .ok (.iconst 0, 1) := by decide +kernel
theorem dX9_partOf_32 : decode cX9_partOf 32 = .ok (.ireturn, 1) := by decide +kernel
theorem dX9_partOf_33 : decode cX9_partOf 33 = .ok (.iload_n 2, 1) := by decide +kernel
theorem dX9_partOf_34 : decode cX9_partOf 34 = .ok (.iload_n 3, 1) := by decide +kernel
theorem dX9_partOf_35 : decode cX9_partOf 35 = .ok (.iconst 1, 1) := by decide +kernel
theorem dX9_partOf_36 : decode cX9_partOf 36 = .ok (.iadd, 1) := by decide +kernel
theorem dX9_partOf_37 : decode cX9_partOf 37 = .ok (.if_icmp .gt 19, 3) := by decide +kernel
theorem dX9_partOf_40 : decode cX9_partOf 40 = .ok (.iload_n 0, 1) := by decide +kernel
theorem dX9_partOf_41 : decode cX9_partOf 41 = .ok (.invokestatic 124, 3) := by decide +kernel
theorem dX9_partOf_44 : decode cX9_partOf 44 = .ok (.ifCond .eq 12, 3) := by decide +kernel
theorem dX9_partOf_47 : decode cX9_partOf 47 = .ok (.iload_n 0, 1) := by decide +kernel
theorem dX9_partOf_48 : decode cX9_partOf 48 = .ok (.iload_n 1, 1) := by decide +kernel
theorem dX9_partOf_49 : decode cX9_partOf 49 = .ok (.invokestatic 131, 3) := by decide +kernel
theorem dX9_partOf_52 : decode cX9_partOf 52 = .ok (.iconst 1, 1) := by decide +kernel
theorem dX9_partOf_53 : decode cX9_partOf 53 = .ok (.if_icmp .ne 7, 3) := by decide +kernel
theorem dX9_partOf_56 : decode cX9_partOf 56 = .ok (.iconst 1, 1) := by decide +kernel
theorem dX9_partOf_57 : decode cX9_partOf 57 = .ok (.goto 4, 3) := by decide +kernel
theorem dX9_partOf_60 : decode cX9_partOf 60 = .ok (.iconst 0, 1) := by decide +kernel
theorem dX9_partOf_61 : decode cX9_partOf 61 = .ok (.ireturn, 1) := by decide +kernel
set_option maxRecDepth 20000 in
theorem ggX9_partOf_X9_bitsOf : GoodIn wsX9_partOf wsX9_bitsOf := goodIn_r _ [4] (by decide +kernel) (by decide +kernel)
set_option maxRecDepth 20000 in
theorem gX9_partOf_X9_bitsOf : GoodIn wsX9_partOf (va_wsS RX9 115 yX9_bitsOf wsX9_bitsOf) := goodIn_app (goodIn_of _ (by decide +kernel)) ggX9_partOf_X9_bitsOf
set_option maxRecDepth 20000 in
theorem ggX9_partOf_X9_hasParity : GoodIn wsX9_partOf wsX9_hasParity := goodIn_r _ [7] (by decide +kernel) (by decide +kernel)
set_option maxRecDepth 20000 in
theorem gX9_partOf_X9_hasParity : GoodIn wsX9_partOf (va_wsS RX9 124 yX9_hasParity wsX9_hasParity) := goodIn_app (goodIn_of _ (by decide +kernel)) ggX9_partOf_X9_hasParity
set_option maxRecDepth 20000 in
theorem ggX9_partOf_X9_parityOf : GoodIn wsX9_partOf wsX9_parityOf := goodIn_r _ [10, 1, 2, 3, 4, 11, 12, 13, 14, 15, 16, 17] (by decide +kernel) (by decide +kernel)
set_option maxRecDepth 20000 in
theorem gX9_partOf_X9_parityOf : GoodIn wsX9_partOf (va_wsS RX9 131 yX9_parityOf wsX9_parityOf) := goodIn_app (goodIn_of _ (by decide +kernel)) ggX9_partOf_X9_parityOf
theorem dX9_lines_0 : decode cX9_lines 0 = .ok (.aload_n 0, 1) := by decide +kernel
theorem dX9_lines_1 : decode cX9_lines 1 = .ok (.invokevirtual 135, 3) := by decide +kernel
theorem dX9_lines_4 : decode cX9_lines 4 = .ok (.ifCond .ne 8, 3) := by decide +kernel
theorem dX9_lines_7 : decode cX9_lines 7 = .ok (.aload_n 0, 1) := by decide +kernel
theorem dX9_lines_8 : decode cX9_lines 8 = .ok (.getfield 64, 3) := by decide +kernel
theorem dX9_lines_11 : decode cX9_lines 11 = .ok (.ireturn, 1) := by decide +kernel
theorem dX9_lines_12 : decode cX9_lines 12 = .ok (.aload_n 0, 1) := by decide +kernel
theorem dX9_lines_13 : decode cX9_lines 13 = .ok (.getfield 58, 3) := by decide +kernel
theorem dX9_lines_16 : decode cX9_lines 16 = .ok (.iconst 1, 1) := by decide +kernel
theorem dX9_lines_17 : decode cX9_lines 17 = .ok (.ishr, 1) := by decide +kernel
theorem dX9_lines_18 : decode cX9_lines 18 = .ok (.iconst 1, 1) := by decide +kernel
theorem dX9_lines_19 : decode cX9_lines 19 = .ok (.iand, 1) := by decide +kernel
theorem dX9_lines_20 : decode cX9_lines 20 = .ok (.iconst 2, 1) := by decide +kernel
theorem dX9_lines_21 : decode cX9_lines 21 = .ok (.aload_n 0, 1) := by decide +kernel
theorem dX9_lines_22 : decode cX9_lines 22 = .ok (.getfield 58, 3) := by decide +kernel
theorem dX9_lines_25 : decode cX9_lines 25 = .ok (.iconst 1, 1) := by decide +kernel
theorem dX9_lines_26 : decode cX9_lines 26 = .ok (.iand, 1) := by decide +kernel
theorem dX9_lines_27 : decode cX9_lines 27 = .ok (.imul, 1) := by decide +kernel
theorem dX9_lines_28 : decode cX9_lines 28 = .ok (.iadd, 1) := by decide +kernel
theorem dX9_lines_29 : decode cX9_lines 29 = .ok (.aload_n 0, 1) := by decide +kernel
theorem dX9_lines_30 : decode cX9_lines 30 = .ok (.getfield 58, 3) := by decide +kernel
theorem dX9_lines_33 : decode cX9_lines 33 = .ok (.iconst 4, 1) := by decide +kernel
theorem dX9_lines_34 : decode cX9_lines 34 = .ok (.iand, 1) := by decide +kernel
theorem dX9_lines_35 : decode cX9_lines 35 = .ok (.iadd, 1) := by decide +kernel
theorem dX9_lines_36 : decode cX9_lines 36 = .ok (.aload_n 0, 1) := by decide +kernel
theorem dX9_lines_37 : decode cX9_lines 37 = .ok (.getfield 58, 3) := by decide +kernel
theorem dX9_lines_40 : decode cX9_lines 40 = .ok (.bipush 8, 2) := by decide +kernel
theorem dX9_lines_42 : decode cX9_lines 42 = .ok (.iand, 1) := by decide +kernel
theorem dX9_lines_43 : decode cX9_lines 43 = .ok (.iadd, 1) := by decide +kernel
theorem dX9_lines_44 : decode cX9_lines 44 = .ok (.ireturn, 1) := by decide +kernel
set_option maxRecDepth 20000 in
theorem ggX9_lines_X9_loops : GoodIn wsX9_lines wsX9_loops := goodIn_r _ [7, 2, 8, 9, 10, 11, 12, 13, 14, 15, 16, 17, 18, 19, 20, 21, 22, 23, 24, 25, 26, 27, 28, 29, 30, 31, 32, 33, 34, 35, 36, 37, 38, 39, 40, 41, 42, 43, 44, 45, 46, 47] (by decide +kernel) (by decide +kernel)
set_option maxRecDepth 20000 in
theorem gX9_lines_X9_loops : GoodIn wsX9_lines (wsV RX9 135 RX9 yX9_loops wsX9_loops) := goodIn_app (goodIn_of _ (by decide +kernel)) ggX9_lines_X9_loops
theorem dX9_notice_0 : decode cX9_notice 0 = .ok (.aload_n 0, 1) := by decide +kernel
theorem dX9_notice_1 : decode cX9_notice 1 = .ok (.invokevirtual 139, 3) := by decide +kernel
theorem dX9_notice_4 : decode cX9_notice 4 = .ok (.istore_n 2, 1) := by decide +kernel
theorem dX9_notice_5 : decode cX9_notice 5 = .ok (.iload_n 1, 1) := by decide +kernel
theorem dX9_notice_6 : decode cX9_notice 6 = .ok (.iload_n 2, 1) := by decide +kernel
theorem dX9_notice_7 : decode cX9_notice 7 = .ok (.ixor, 1) := by decide +kernel
theorem dX9_notice_8 : decode cX9_notice 8 = .ok (.istore_n 3, 1) := by decide +kernel
theorem dX9_notice_9 : decode cX9_notice 9 = .ok (.aload_n 0, 1) := by decide +kernel
theorem dX9_notice_10 : decode cX9_notice 10 = .ok (.dup, 1) := by decide +kernel
theorem dX9_notice_11 : decode cX9_notice 11 = .ok (.getfield 67, 3) := by decide +kernel
theorem dX9_notice_14 : decode cX9_notice 14 = .ok (.iload_n 3, 1) := by decide +kernel
theorem dX9_notice_15 : decode cX9_notice 15 = .ok (.bipush 11, 2) := by decide +kernel
theorem dX9_notice_17 : decode cX9_notice 17 = .ok (.iand, 1) := by decide +kernel
theorem dX9_notice_18 : decode cX9_notice 18 = .ok (.ior, 1) := by decide +kernel
theorem dX9_notice_19 : decode cX9_notice 19 = .ok (.putfield 67, 3) := by decide +kernel
theorem dX9_notice_22 : decode cX9_notice 22 = .ok (.iload_n 1, 1) := by decide +kernel
theorem dX9_notice_23 : decode cX9_notice 23 = .ok (.iconst 4, 1) := by decide +kernel
theorem dX9_notice_24 : decode cX9_notice 24 = .ok (.iand, 1) := by decide +kernel
theorem dX9_notice_25 : decode cX9_notice 25 = .ok (.ifCond .eq 19, 3) := by decide +kernel
theorem dX9_notice_28 : decode cX9_notice 28 = .ok (.iload_n 2, 1) := by decide +kernel
theorem dX9_notice_29 : decode cX9_notice 29 = .ok (.iconst 4, 1) := by decide +kernel
theorem dX9_notice_30 : decode cX9_notice 30 = .ok (.iand, 1) := by decide +kernel
theorem dX9_notice_31 : decode cX9_notice 31 = .ok (.ifCond .ne 13, 3) := by decide +kernel
theorem dX9_notice_34 : decode cX9_notice 34 = .ok (.aload_n 0, 1) := by decide +kernel
theorem dX9_notice_35 : decode cX9_notice 35 = .ok (.dup, 1) := by decide +kernel
theorem dX9_notice_36 : decode cX9_notice 36 = .ok (.getfield 67, 3) := by decide +kernel
theorem dX9_notice_39 : decode cX9_notice 39 = .ok (.iconst 4, 1) := by decide +kernel
theorem dX9_notice_40 : decode cX9_notice 40 = .ok (.ior, 1) := by decide +kernel
theorem dX9_notice_41 : decode cX9_notice 41 = .ok (.putfield 67, 3) := by decide +kernel
theorem dX9_notice_44 : decode cX9_notice 44 = .ok (.return_, 1) := by decide +kernel
set_option maxRecDepth 20000 in
theorem ggX9_notice_X9_lines : GoodIn wsX9_notice wsX9_lines := goodIn_r _ [6, 7, 8, 9, 10, 11, 5, 12, 13, 14, 15, 16, 17, 18, 19, 20, 21, 22, 23, 24, 25, 26, 27, 28, 29, 30, 31, 32, 33, 34, 35, 36, 37, 38, 39, 40, 41, 42, 43, 44, 45, 46, 47, 48, 49, 50, 51, 52] (by decide +kernel) (by decide +kernel)
set_option maxRecDepth 20000 in
theorem gX9_notice_X9_lines : GoodIn wsX9_notice (wsV RX9 139 RX9 yX9_lines wsX9_lines) := goodIn_app (goodIn_of _ (by decide +kernel)) ggX9_notice_X9_lines
theorem dX9_inputs_0 : decode cX9_inputs 0 = .ok (.aload_n 0, 1) := by decide +kernel
theorem dX9_inputs_1 : decode cX9_inputs 1 = .ok (.iconst 0, 1) := by decide +kernel
theorem dX9_inputs_2 : decode cX9_inputs 2 = .ok (.putfield 35, 3) := by decide +kernel
theorem dX9_inputs_5 : decode cX9_inputs 5 = .ok (.iload_n 1, 1) := by decide +kernel
theorem dX9_inputs_6 : decode cX9_inputs 6 = .ok (.ifCond .lt 9, 3) := by decide +kernel
theorem dX9_inputs_9 : decode cX9_inputs 9 = .ok (.iload_n 1, 1) := by decide +kernel
theorem dX9_inputs_10 : decode cX9_inputs 10 = .ok (.bipush 15, 2) := by decide +kernel
theorem dX9_inputs_12 : decode cX9_inputs 12 = .ok (.if_icmp .le 5, 3) := by decide +kernel
theorem dX9_inputs_15 : decode cX9_inputs 15 = .ok (.iconst 0, 1) := by decide +kernel
theorem dX9_inputs_16 : decode cX9_inputs 16 = .ok (.ireturn, 1) := by decide +kernel
theorem dX9_inputs_17 : decode cX9_inputs 17 = .ok (.aload_n 0, 1) := by decide +kernel
theorem dX9_inputs_18 : decode cX9_inputs 18 = .ok (.invokevirtual 139, 3) := by decide +kernel
theorem dX9_inputs_21 : decode cX9_inputs 21 = .ok (.istore_n 2, 1) := by decide +kernel
theorem dX9_inputs_22 : decode cX9_inputs 22 = .ok (.aload_n 0, 1) := by decide +kernel
theorem dX9_inputs_23 : decode cX9_inputs 23 = .ok (.iload_n 1, 1) := by decide +kernel
theorem dX9_inputs_24 : decode cX9_inputs 24 = .ok (.putfield 64, 3) := by decide +kernel
theorem dX9_inputs_27 : decode cX9_inputs 27 = .ok (.aload_n 0, 1) := by decide +kernel
theorem dX9_inputs_28 : decode cX9_inputs 28 = .ok (.iload_n 2, 1) := by decide +kernel
theorem dX9_inputs_29 : decode cX9_inputs 29 = .ok (.invokevirtual 143, 3) := by decide +kernel
theorem dX9_inputs_32 : decode cX9_inputs 32 = .ok (.iconst 1, 1) := by decide +kernel
theorem dX9_inputs_33 : decode cX9_inputs 33 = .ok (.ireturn, 1) := by decide +kernel
set_option maxRecDepth 20000 in
theorem ggX9_inputs_X9_lines : GoodIn wsX9_inputs wsX9_lines := goodIn_r _ [7, 2, 8, 9, 10, 11, 6, 12, 18, 19, 20, 21, 22, 23, 24, 25, 26, 27, 28, 29, 30, 31, 32, 33, 34, 35, 36, 37, 38, 39, 40, 41, 42, 43, 44, 45, 46, 47, 48, 49, 50, 51, 52, 53, 54, 55, 56, 57] (by decide +kernel) (by decide +kernel)
set_option maxRecDepth 20000 in
theorem gX9_inputs_X9_lines : GoodIn wsX9_inputs (wsV RX9 139 RX9 yX9_lines wsX9_lines) := goodIn_app (goodIn_of _ (by decide +kernel)) ggX9_inputs_X9_lines
set_option maxRecDepth 20000 in
theorem ggX9_inputs_X9_notice : GoodIn wsX9_inputs wsX9_notice := goodIn_r _ [16, 17, 3, 4, 5, 6, 7, 2, 8, 9, 10, 11, 12, 18, 19, 20, 21, 22, 23, 24, 25, 26, 27, 28, 29, 30, 31, 32, 33, 34, 35, 36, 37, 38, 39, 40, 41, 42, 43, 44, 45, 46, 47, 48, 49, 50, 51, 52, 53, 54, 55, 56, 57] (by decide +kernel) (by decide +kernel)
set_option maxRecDepth 20000 in
theorem gX9_inputs_X9_notice : GoodIn wsX9_inputs (wsV RX9 143 RX9 yX9_notice wsX9_notice) := goodIn_app (goodIn_of _ (by decide +kernel)) ggX9_inputs_X9_notice
def F_X9_thrown  (v_thrown : Int32) : Option (Int32) := some v_thrown
def wX9_thrown (h_ : Nat) (h_received : Nat) (h_marks : Nat) (h_sending : Nat) (h_waveHigh : Nat) (h_waveBeats : Nat) (h_runHigh : Nat) (h_runBeats : Nat) (v_divisor : Int32) (v_clocks : Int32) (v_wanted : Int32) (v_rowsOn : Bool) (v_level : Int32) (v_form : Int32) (v_outputs : Int32) (v_byteKept : Int32) (v_ins : Int32) (v_changed : Int32) (v_receivedMany : Int32) (v_overrun : Bool) (v_sendingMany : Int32) (v_emptyUp : Bool) (v_lateUp : Bool) (v_lateCount : Int32) (v_waveMany : Int32) (v_lineIn : Bool) (v_sends : Bool) (v_sentCharacter : Int32) (v_sentForm : Int32) (v_sentBeat : Int32) (v_senderHigh : Bool) (v_takes : Bool) (v_sawHigh : Bool) (v_takenForm : Int32) (v_takenBeat : Int32) (v_takenBits : Int32) (v_takenParity : Int32) (v_beats : Int32) (v_out : Bool) (v_runs : Int32) (v_thrown : Int32) (_u : Int32) : va_W := [oX9 h_ v_divisor v_clocks v_wanted v_rowsOn v_level v_form v_outputs v_byteKept v_ins v_changed h_received h_marks v_receivedMany v_overrun h_sending v_sendingMany v_emptyUp v_lateUp v_lateCount h_waveHigh h_waveBeats v_waveMany v_lineIn v_sends v_sentCharacter v_sentForm v_sentBeat v_senderHigh v_takes v_sawHigh v_takenForm v_takenBeat v_takenBits v_takenParity v_beats v_out h_runHigh h_runBeats v_runs v_thrown]
set_option maxHeartbeats 4000000 in
set_option maxRecDepth 100000 in
theorem mX9_thrown {l : Launch} (D : va_G) (h_ : Nat) (h_received : Nat) (h_marks : Nat) (h_sending : Nat) (h_waveHigh : Nat) (h_waveBeats : Nat) (h_runHigh : Nat) (h_runBeats : Nat) (v_divisor : Int32) (v_clocks : Int32) (v_wanted : Int32) (v_rowsOn : Bool) (v_level : Int32) (v_form : Int32) (v_outputs : Int32) (v_byteKept : Int32) (v_ins : Int32) (v_changed : Int32) (v_receivedMany : Int32) (v_overrun : Bool) (v_sendingMany : Int32) (v_emptyUp : Bool) (v_lateUp : Bool) (v_lateCount : Int32) (v_waveMany : Int32) (v_lineIn : Bool) (v_sends : Bool) (v_sentCharacter : Int32) (v_sentForm : Int32) (v_sentBeat : Int32) (v_senderHigh : Bool) (v_takes : Bool) (v_sawHigh : Bool) (v_takenForm : Int32) (v_takenBeat : Int32) (v_takenBits : Int32) (v_takenParity : Int32) (v_beats : Int32) (v_out : Bool) (v_runs : Int32) (v_thrown : Int32) (u0 : Int32) (hF : F_X9_thrown v_thrown = some u0) : MI l yX9_thrown wsX9_thrown { frames := 0, cells := 0, slots := 0, locals := 0 } D [] [.ref h_] [oX9 h_ v_divisor v_clocks v_wanted v_rowsOn v_level v_form v_outputs v_byteKept v_ins v_changed h_received h_marks v_receivedMany v_overrun h_sending v_sendingMany v_emptyUp v_lateUp v_lateCount h_waveHigh h_waveBeats v_waveMany v_lineIn v_sends v_sentCharacter v_sentForm v_sentBeat v_senderHigh v_takes v_sawHigh v_takenForm v_takenBeat v_takenBits v_takenParity v_beats v_out h_runHigh h_runBeats v_runs v_thrown] (wX9_thrown h_ h_received h_marks h_sending h_waveHigh h_waveBeats h_runHigh h_runBeats v_divisor v_clocks v_wanted v_rowsOn v_level v_form v_outputs v_byteKept v_ins v_changed v_receivedMany v_overrun v_sendingMany v_emptyUp v_lateUp v_lateCount v_waveMany v_lineIn v_sends v_sentCharacter v_sentForm v_sentBeat v_senderHigh v_takes v_sawHigh v_takenForm v_takenBeat v_takenBits v_takenParity v_beats v_out v_runs v_thrown u0) (u0) := by
  refine MI.ofW (cc := cX9_thrown) (maxL := 1) (ret := (some .int)) (lv := [(0, .ref h_)]) (by decide +kernel) rfl (Nat.le_of_ble_eq_true rfl) rfl ?_
  intro p e s m args below meth c A ls hx hb hr hml hts hown hlocks hA hK hP hD hS hl
  replace hown : s.vm.findClass RX9 = some m.cls := hown
  have i_X9 : ∀ w ∈ wsX90, w ∈ wsX9_thrown := by decide +kernel
  have f_35 := hts (.fieldLink RX9 35 "SerialPortModel" "thrown" "I") (by decide +kernel)
  have hret : ∀ (u : Int32) (v : Int32) (H : Heap) (locs : List Loc) (pc : Nat) (ls : Array Slot), va_P D vwCl (wX9_thrown h_ h_received h_marks h_sending h_waveHigh h_waveBeats h_runHigh h_runBeats v_divisor v_clocks v_wanted v_rowsOn v_level v_form v_outputs v_byteKept v_ins v_changed v_receivedMany v_overrun v_sendingMany v_emptyUp v_lateUp v_lateCount v_waveMany v_lineIn v_sends v_sentCharacter v_sentForm v_sentBeat v_senderHigh v_takes v_sawHigh v_takenForm v_takenBeat v_takenBits v_takenParity v_beats v_out v_runs v_thrown u) H → va_D A (wX9_thrown h_ h_received h_marks h_sending h_waveHigh h_waveBeats h_runHigh h_runBeats v_divisor v_clocks v_wanted v_rowsOn v_level v_form v_outputs v_byteKept v_ins v_changed v_receivedMany v_overrun v_sendingMany v_emptyUp v_lateUp v_lateCount v_waveMany v_lineIn v_sends v_sentCharacter v_sentForm v_sentBeat v_senderHigh v_takes v_sawHigh v_takenForm v_takenBeat v_takenBits v_takenParity v_beats v_out v_runs v_thrown u) → va_S A s.heap H locs → some u = some u0 → v = u → decode cX9_thrown pc = .ok (.ireturn, 1) → W p l e { frames := 0, cells := 0, slots := 0, locals := 0 } s m args below meth c H locs 0 0 (QI below D [] (wX9_thrown h_ h_received h_marks h_sending h_waveHigh h_waveBeats h_runHigh h_runBeats v_divisor v_clocks v_wanted v_rowsOn v_level v_form v_outputs v_byteKept v_ins v_changed v_receivedMany v_overrun v_sendingMany v_emptyUp v_lateUp v_lateCount v_waveMany v_lineIn v_sends v_sentCharacter v_sentForm v_sentBeat v_senderHigh v_takes v_sawHigh v_takenForm v_takenBeat v_takenBits v_takenParity v_beats v_out v_runs v_thrown u0) (u0) args s A) (F0 m pc ls [.int v]) := fun u v H locs pc ls h1 h2 h3 h4 h5 h6 => rI (wf := wX9_thrown h_ h_received h_marks h_sending h_waveHigh h_waveBeats h_runHigh h_runBeats v_divisor v_clocks v_wanted v_rowsOn v_level v_form v_outputs v_byteKept v_ins v_changed v_receivedMany v_overrun v_sendingMany v_emptyUp v_lateUp v_lateCount v_waveMany v_lineIn v_sends v_sentCharacter v_sentForm v_sentBeat v_senderHigh v_takes v_sawHigh v_takenForm v_takenBeat v_takenBits v_takenParity v_beats v_out v_runs v_thrown) (rf := fun u => u) hx hb hr hlocks hK h1 h2 h3 h4 h5 h6
  unfold F_X9_thrown at hF
  refine lv_aload_n hx hb dX9_thrown_0 rfl (lv_at hl 0 rfl) ?_
  refine va_get (D := D) (ci := 8) (v := .int v_thrown) (C := RX9) (T := TX9) (N := 40) hx hb hts i_X9 hown hK hP 0 rfl rfl 39 (Nat.le_of_ble_eq_true rfl) f_35 (fun _ h9 => h9) rfl dX9_thrown_1 ?_
  exact hret v_thrown v_thrown _ _ 4 _ hP hD hS hF rfl dX9_thrown_4
def F_X9_reset  (v_divisor : Int32) (v_clocks : Int32) (v_wanted : Int32) (v_rowsOn : Bool) (v_level : Int32) (v_form : Int32) (v_outputs : Int32) (v_byteKept : Int32) (v_ins : Int32) (v_changed : Int32) (v_receivedMany : Int32) (v_overrun : Bool) (v_sendingMany : Int32) (v_emptyUp : Bool) (v_lateUp : Bool) (v_lateCount : Int32) (v_waveMany : Int32) (v_lineIn : Bool) (v_sends : Bool) (v_senderHigh : Bool) (v_takes : Bool) (v_sawHigh : Bool) (v_beats : Int32) (v_out : Bool) (v_runs : Int32) (v_thrown : Int32) : Option (Int32 × Int32 × Int32 × Bool × Int32 × Int32 × Int32 × Int32 × Int32 × Int32 × Int32 × Bool × Int32 × Bool × Bool × Int32 × Int32 × Bool × Bool × Bool × Bool × Bool × Int32 × Bool × Int32 × Int32) := some (0, 0, 0, false, 1, 0, 0, 0, 0, 0, 0, false, 0, false, false, 0, 0, true, false, true, false, true, 0, true, 0, 0)
def wX9_reset (h_ : Nat) (h_received : Nat) (h_marks : Nat) (h_sending : Nat) (h_waveHigh : Nat) (h_waveBeats : Nat) (h_runHigh : Nat) (h_runBeats : Nat) (v_sentCharacter : Int32) (v_sentForm : Int32) (v_sentBeat : Int32) (v_takenForm : Int32) (v_takenBeat : Int32) (v_takenBits : Int32) (v_takenParity : Int32) (u : Int32 × Int32 × Int32 × Bool × Int32 × Int32 × Int32 × Int32 × Int32 × Int32 × Int32 × Bool × Int32 × Bool × Bool × Int32 × Int32 × Bool × Bool × Bool × Bool × Bool × Int32 × Bool × Int32 × Int32) : va_W := [oX9 h_ u.1 u.2.1 u.2.2.1 u.2.2.2.1 u.2.2.2.2.1 u.2.2.2.2.2.1 u.2.2.2.2.2.2.1 u.2.2.2.2.2.2.2.1 u.2.2.2.2.2.2.2.2.1 u.2.2.2.2.2.2.2.2.2.1 h_received h_marks u.2.2.2.2.2.2.2.2.2.2.1 u.2.2.2.2.2.2.2.2.2.2.2.1 h_sending u.2.2.2.2.2.2.2.2.2.2.2.2.1 u.2.2.2.2.2.2.2.2.2.2.2.2.2.1 u.2.2.2.2.2.2.2.2.2.2.2.2.2.2.1 u.2.2.2.2.2.2.2.2.2.2.2.2.2.2.2.1 h_waveHigh h_waveBeats u.2.2.2.2.2.2.2.2.2.2.2.2.2.2.2.2.1 u.2.2.2.2.2.2.2.2.2.2.2.2.2.2.2.2.2.1 u.2.2.2.2.2.2.2.2.2.2.2.2.2.2.2.2.2.2.1 v_sentCharacter v_sentForm v_sentBeat u.2.2.2.2.2.2.2.2.2.2.2.2.2.2.2.2.2.2.2.1 u.2.2.2.2.2.2.2.2.2.2.2.2.2.2.2.2.2.2.2.2.1 u.2.2.2.2.2.2.2.2.2.2.2.2.2.2.2.2.2.2.2.2.2.1 v_takenForm v_takenBeat v_takenBits v_takenParity u.2.2.2.2.2.2.2.2.2.2.2.2.2.2.2.2.2.2.2.2.2.2.1 u.2.2.2.2.2.2.2.2.2.2.2.2.2.2.2.2.2.2.2.2.2.2.2.1 h_runHigh h_runBeats u.2.2.2.2.2.2.2.2.2.2.2.2.2.2.2.2.2.2.2.2.2.2.2.2.1 u.2.2.2.2.2.2.2.2.2.2.2.2.2.2.2.2.2.2.2.2.2.2.2.2.2]
set_option maxHeartbeats 4000000 in
set_option maxRecDepth 100000 in
theorem mX9_reset {l : Launch} (D : va_G) (h_ : Nat) (h_received : Nat) (h_marks : Nat) (h_sending : Nat) (h_waveHigh : Nat) (h_waveBeats : Nat) (h_runHigh : Nat) (h_runBeats : Nat) (v_divisor : Int32) (v_clocks : Int32) (v_wanted : Int32) (v_rowsOn : Bool) (v_level : Int32) (v_form : Int32) (v_outputs : Int32) (v_byteKept : Int32) (v_ins : Int32) (v_changed : Int32) (v_receivedMany : Int32) (v_overrun : Bool) (v_sendingMany : Int32) (v_emptyUp : Bool) (v_lateUp : Bool) (v_lateCount : Int32) (v_waveMany : Int32) (v_lineIn : Bool) (v_sends : Bool) (v_sentCharacter : Int32) (v_sentForm : Int32) (v_sentBeat : Int32) (v_senderHigh : Bool) (v_takes : Bool) (v_sawHigh : Bool) (v_takenForm : Int32) (v_takenBeat : Int32) (v_takenBits : Int32) (v_takenParity : Int32) (v_beats : Int32) (v_out : Bool) (v_runs : Int32) (v_thrown : Int32) (u0 : Int32 × Int32 × Int32 × Bool × Int32 × Int32 × Int32 × Int32 × Int32 × Int32 × Int32 × Bool × Int32 × Bool × Bool × Int32 × Int32 × Bool × Bool × Bool × Bool × Bool × Int32 × Bool × Int32 × Int32) (hF : F_X9_reset v_divisor v_clocks v_wanted v_rowsOn v_level v_form v_outputs v_byteKept v_ins v_changed v_receivedMany v_overrun v_sendingMany v_emptyUp v_lateUp v_lateCount v_waveMany v_lineIn v_sends v_senderHigh v_takes v_sawHigh v_beats v_out v_runs v_thrown = some u0) : MV l yX9_reset wsX9_reset { frames := 0, cells := 0, slots := 0, locals := 0 } D [] [.ref h_] [oX9 h_ v_divisor v_clocks v_wanted v_rowsOn v_level v_form v_outputs v_byteKept v_ins v_changed h_received h_marks v_receivedMany v_overrun h_sending v_sendingMany v_emptyUp v_lateUp v_lateCount h_waveHigh h_waveBeats v_waveMany v_lineIn v_sends v_sentCharacter v_sentForm v_sentBeat v_senderHigh v_takes v_sawHigh v_takenForm v_takenBeat v_takenBits v_takenParity v_beats v_out h_runHigh h_runBeats v_runs v_thrown] (wX9_reset h_ h_received h_marks h_sending h_waveHigh h_waveBeats h_runHigh h_runBeats v_sentCharacter v_sentForm v_sentBeat v_takenForm v_takenBeat v_takenBits v_takenParity u0) := by
  refine MV.ofW (cc := cX9_reset) (maxL := 1) (ret := none) (lv := [(0, .ref h_)]) (by decide +kernel) rfl (Nat.le_of_ble_eq_true rfl) rfl ?_
  intro p e s m args below meth c A ls hx hb hr hml hts hown hlocks hA hK hP hD hS hl
  replace hown : s.vm.findClass RX9 = some m.cls := hown
  have i_X9 : ∀ w ∈ wsX90, w ∈ wsX9_reset := by decide +kernel
  have f_35 := hts (.fieldLink RX9 35 "SerialPortModel" "thrown" "I") (by decide +kernel)
  have f_39 := hts (.fieldLink RX9 39 "SerialPortModel" "divisor" "I") (by decide +kernel)
  have f_42 := hts (.fieldLink RX9 42 "SerialPortModel" "clocks" "I") (by decide +kernel)
  have f_45 := hts (.fieldLink RX9 45 "SerialPortModel" "wanted" "I") (by decide +kernel)
  have f_48 := hts (.fieldLink RX9 48 "SerialPortModel" "rowsOn" "Z") (by decide +kernel)
  have f_52 := hts (.fieldLink RX9 52 "SerialPortModel" "level" "I") (by decide +kernel)
  have f_55 := hts (.fieldLink RX9 55 "SerialPortModel" "form" "I") (by decide +kernel)
  have f_58 := hts (.fieldLink RX9 58 "SerialPortModel" "outputs" "I") (by decide +kernel)
  have f_61 := hts (.fieldLink RX9 61 "SerialPortModel" "byteKept" "I") (by decide +kernel)
  have f_64 := hts (.fieldLink RX9 64 "SerialPortModel" "ins" "I") (by decide +kernel)
  have f_67 := hts (.fieldLink RX9 67 "SerialPortModel" "changed" "I") (by decide +kernel)
  have f_70 := hts (.fieldLink RX9 70 "SerialPortModel" "receivedMany" "I") (by decide +kernel)
  have f_73 := hts (.fieldLink RX9 73 "SerialPortModel" "overrun" "Z") (by decide +kernel)
  have f_76 := hts (.fieldLink RX9 76 "SerialPortModel" "sendingMany" "I") (by decide +kernel)
  have f_79 := hts (.fieldLink RX9 79 "SerialPortModel" "emptyUp" "Z") (by decide +kernel)
  have f_82 := hts (.fieldLink RX9 82 "SerialPortModel" "lateUp" "Z") (by decide +kernel)
  have f_85 := hts (.fieldLink RX9 85 "SerialPortModel" "lateCount" "I") (by decide +kernel)
  have f_88 := hts (.fieldLink RX9 88 "SerialPortModel" "waveMany" "I") (by decide +kernel)
  have f_91 := hts (.fieldLink RX9 91 "SerialPortModel" "lineIn" "Z") (by decide +kernel)
  have f_94 := hts (.fieldLink RX9 94 "SerialPortModel" "sends" "Z") (by decide +kernel)
  have f_97 := hts (.fieldLink RX9 97 "SerialPortModel" "senderHigh" "Z") (by decide +kernel)
  have f_100 := hts (.fieldLink RX9 100 "SerialPortModel" "takes" "Z") (by decide +kernel)
  have f_103 := hts (.fieldLink RX9 103 "SerialPortModel" "sawHigh" "Z") (by decide +kernel)
  have f_106 := hts (.fieldLink RX9 106 "SerialPortModel" "beats" "I") (by decide +kernel)
  have f_109 := hts (.fieldLink RX9 109 "SerialPortModel" "out" "Z") (by decide +kernel)
  have f_112 := hts (.fieldLink RX9 112 "SerialPortModel" "runs" "I") (by decide +kernel)
  have hret : ∀ (u : Int32 × Int32 × Int32 × Bool × Int32 × Int32 × Int32 × Int32 × Int32 × Int32 × Int32 × Bool × Int32 × Bool × Bool × Int32 × Int32 × Bool × Bool × Bool × Bool × Bool × Int32 × Bool × Int32 × Int32) (H : Heap) (locs : List Loc) (pc : Nat) (ls : Array Slot), va_P D vwCl (wX9_reset h_ h_received h_marks h_sending h_waveHigh h_waveBeats h_runHigh h_runBeats v_sentCharacter v_sentForm v_sentBeat v_takenForm v_takenBeat v_takenBits v_takenParity u) H → va_D A (wX9_reset h_ h_received h_marks h_sending h_waveHigh h_waveBeats h_runHigh h_runBeats v_sentCharacter v_sentForm v_sentBeat v_takenForm v_takenBeat v_takenBits v_takenParity u) → va_S A s.heap H locs → some u = some u0 → decode cX9_reset pc = .ok (.return_, 1) → W p l e { frames := 0, cells := 0, slots := 0, locals := 0 } s m args below meth c H locs 0 0 (QV below D [] (wX9_reset h_ h_received h_marks h_sending h_waveHigh h_waveBeats h_runHigh h_runBeats v_sentCharacter v_sentForm v_sentBeat v_takenForm v_takenBeat v_takenBits v_takenParity u0) args s A) (F0 m pc ls []) := fun u H locs pc ls h1 h2 h3 h4 h5 => rV (wf := wX9_reset h_ h_received h_marks h_sending h_waveHigh h_waveBeats h_runHigh h_runBeats v_sentCharacter v_sentForm v_sentBeat v_takenForm v_takenBeat v_takenBits v_takenParity) hx hb hr hlocks hK h1 h2 h3 h4 h5
  unfold F_X9_reset at hF
  refine lv_aload_n hx hb dX9_reset_0 rfl (lv_at hl 0 rfl) ?_
  refine lv_iconst (v := 0) hx hb dX9_reset_1 (by decide) ?_
  refine pf (ci := 8) (v := .int 0) (ty := .int) (C := RX9) (T := TX9) (N := 40) (ws' := [oX9 h_ v_divisor v_clocks v_wanted v_rowsOn v_level v_form v_outputs v_byteKept v_ins v_changed h_received h_marks v_receivedMany v_overrun h_sending v_sendingMany v_emptyUp v_lateUp v_lateCount h_waveHigh h_waveBeats v_waveMany v_lineIn v_sends v_sentCharacter v_sentForm v_sentBeat v_senderHigh v_takes v_sawHigh v_takenForm v_takenBeat v_takenBits v_takenParity v_beats v_out h_runHigh h_runBeats v_runs 0]) hx hb hts i_X9 tyX9_ok nmX9 hown hK hP hD hS 0 rfl rfl 39 (Nat.le_of_ble_eq_true rfl) f_35 rfl rfl (by decide +kernel) rfl rfl (Nat.le_of_ble_eq_true rfl) rfl dX9_reset_2 (fun H locs hP hD hS => ?_)
  refine lv_aload_n hx hb dX9_reset_5 rfl (lv_at hl 0 rfl) ?_
  refine lv_iconst (v := 0) hx hb dX9_reset_6 (by decide) ?_
  refine pf (ci := 8) (v := .int 0) (ty := .int) (C := RX9) (T := TX9) (N := 40) (ws' := [oX9 h_ 0 v_clocks v_wanted v_rowsOn v_level v_form v_outputs v_byteKept v_ins v_changed h_received h_marks v_receivedMany v_overrun h_sending v_sendingMany v_emptyUp v_lateUp v_lateCount h_waveHigh h_waveBeats v_waveMany v_lineIn v_sends v_sentCharacter v_sentForm v_sentBeat v_senderHigh v_takes v_sawHigh v_takenForm v_takenBeat v_takenBits v_takenParity v_beats v_out h_runHigh h_runBeats v_runs 0]) hx hb hts i_X9 tyX9_ok nmX9 hown hK hP hD hS 0 rfl rfl 0 (Nat.le_of_ble_eq_true rfl) f_39 rfl rfl (by decide +kernel) rfl rfl (Nat.le_of_ble_eq_true rfl) rfl dX9_reset_7 (fun H locs hP hD hS => ?_)
  refine lv_aload_n hx hb dX9_reset_10 rfl (lv_at hl 0 rfl) ?_
  refine lv_iconst (v := 0) hx hb dX9_reset_11 (by decide) ?_
  refine pf (ci := 8) (v := .int 0) (ty := .int) (C := RX9) (T := TX9) (N := 40) (ws' := [oX9 h_ 0 0 v_wanted v_rowsOn v_level v_form v_outputs v_byteKept v_ins v_changed h_received h_marks v_receivedMany v_overrun h_sending v_sendingMany v_emptyUp v_lateUp v_lateCount h_waveHigh h_waveBeats v_waveMany v_lineIn v_sends v_sentCharacter v_sentForm v_sentBeat v_senderHigh v_takes v_sawHigh v_takenForm v_takenBeat v_takenBits v_takenParity v_beats v_out h_runHigh h_runBeats v_runs 0]) hx hb hts i_X9 tyX9_ok nmX9 hown hK hP hD hS 0 rfl rfl 1 (Nat.le_of_ble_eq_true rfl) f_42 rfl rfl (by decide +kernel) rfl rfl (Nat.le_of_ble_eq_true rfl) rfl dX9_reset_12 (fun H locs hP hD hS => ?_)
  refine lv_aload_n hx hb dX9_reset_15 rfl (lv_at hl 0 rfl) ?_
  refine lv_iconst (v := 0) hx hb dX9_reset_16 (by decide) ?_
  refine pf (ci := 8) (v := .int 0) (ty := .int) (C := RX9) (T := TX9) (N := 40) (ws' := [oX9 h_ 0 0 0 v_rowsOn v_level v_form v_outputs v_byteKept v_ins v_changed h_received h_marks v_receivedMany v_overrun h_sending v_sendingMany v_emptyUp v_lateUp v_lateCount h_waveHigh h_waveBeats v_waveMany v_lineIn v_sends v_sentCharacter v_sentForm v_sentBeat v_senderHigh v_takes v_sawHigh v_takenForm v_takenBeat v_takenBits v_takenParity v_beats v_out h_runHigh h_runBeats v_runs 0]) hx hb hts i_X9 tyX9_ok nmX9 hown hK hP hD hS 0 rfl rfl 2 (Nat.le_of_ble_eq_true rfl) f_45 rfl rfl (by decide +kernel) rfl rfl (Nat.le_of_ble_eq_true rfl) rfl dX9_reset_17 (fun H locs hP hD hS => ?_)
  refine lv_aload_n hx hb dX9_reset_20 rfl (lv_at hl 0 rfl) ?_
  refine lv_iconst (v := 0) hx hb dX9_reset_21 (by decide) ?_
  refine pf (ci := 8) (v := .int (bI false)) (ty := .boolean) (C := RX9) (T := TX9) (N := 40) (ws' := [oX9 h_ 0 0 0 false v_level v_form v_outputs v_byteKept v_ins v_changed h_received h_marks v_receivedMany v_overrun h_sending v_sendingMany v_emptyUp v_lateUp v_lateCount h_waveHigh h_waveBeats v_waveMany v_lineIn v_sends v_sentCharacter v_sentForm v_sentBeat v_senderHigh v_takes v_sawHigh v_takenForm v_takenBeat v_takenBits v_takenParity v_beats v_out h_runHigh h_runBeats v_runs 0]) hx hb hts i_X9 tyX9_ok nmX9 hown hK hP hD hS 0 rfl rfl 3 (Nat.le_of_ble_eq_true rfl) f_48 rfl rfl (by decide +kernel) (nar_bI false) (fit_bI false) (Nat.le_of_ble_eq_true rfl) rfl dX9_reset_22 (fun H locs hP hD hS => ?_)
  refine lv_aload_n hx hb dX9_reset_25 rfl (lv_at hl 0 rfl) ?_
  refine lv_iconst (v := 1) hx hb dX9_reset_26 (by decide) ?_
  refine pf (ci := 8) (v := .int 1) (ty := .int) (C := RX9) (T := TX9) (N := 40) (ws' := [oX9 h_ 0 0 0 false 1 v_form v_outputs v_byteKept v_ins v_changed h_received h_marks v_receivedMany v_overrun h_sending v_sendingMany v_emptyUp v_lateUp v_lateCount h_waveHigh h_waveBeats v_waveMany v_lineIn v_sends v_sentCharacter v_sentForm v_sentBeat v_senderHigh v_takes v_sawHigh v_takenForm v_takenBeat v_takenBits v_takenParity v_beats v_out h_runHigh h_runBeats v_runs 0]) hx hb hts i_X9 tyX9_ok nmX9 hown hK hP hD hS 0 rfl rfl 4 (Nat.le_of_ble_eq_true rfl) f_52 rfl rfl (by decide +kernel) rfl rfl (Nat.le_of_ble_eq_true rfl) rfl dX9_reset_27 (fun H locs hP hD hS => ?_)
  refine lv_aload_n hx hb dX9_reset_30 rfl (lv_at hl 0 rfl) ?_
  refine lv_iconst (v := 0) hx hb dX9_reset_31 (by decide) ?_
  refine pf (ci := 8) (v := .int 0) (ty := .int) (C := RX9) (T := TX9) (N := 40) (ws' := [oX9 h_ 0 0 0 false 1 0 v_outputs v_byteKept v_ins v_changed h_received h_marks v_receivedMany v_overrun h_sending v_sendingMany v_emptyUp v_lateUp v_lateCount h_waveHigh h_waveBeats v_waveMany v_lineIn v_sends v_sentCharacter v_sentForm v_sentBeat v_senderHigh v_takes v_sawHigh v_takenForm v_takenBeat v_takenBits v_takenParity v_beats v_out h_runHigh h_runBeats v_runs 0]) hx hb hts i_X9 tyX9_ok nmX9 hown hK hP hD hS 0 rfl rfl 5 (Nat.le_of_ble_eq_true rfl) f_55 rfl rfl (by decide +kernel) rfl rfl (Nat.le_of_ble_eq_true rfl) rfl dX9_reset_32 (fun H locs hP hD hS => ?_)
  refine lv_aload_n hx hb dX9_reset_35 rfl (lv_at hl 0 rfl) ?_
  refine lv_iconst (v := 0) hx hb dX9_reset_36 (by decide) ?_
  refine pf (ci := 8) (v := .int 0) (ty := .int) (C := RX9) (T := TX9) (N := 40) (ws' := [oX9 h_ 0 0 0 false 1 0 0 v_byteKept v_ins v_changed h_received h_marks v_receivedMany v_overrun h_sending v_sendingMany v_emptyUp v_lateUp v_lateCount h_waveHigh h_waveBeats v_waveMany v_lineIn v_sends v_sentCharacter v_sentForm v_sentBeat v_senderHigh v_takes v_sawHigh v_takenForm v_takenBeat v_takenBits v_takenParity v_beats v_out h_runHigh h_runBeats v_runs 0]) hx hb hts i_X9 tyX9_ok nmX9 hown hK hP hD hS 0 rfl rfl 6 (Nat.le_of_ble_eq_true rfl) f_58 rfl rfl (by decide +kernel) rfl rfl (Nat.le_of_ble_eq_true rfl) rfl dX9_reset_37 (fun H locs hP hD hS => ?_)
  refine lv_aload_n hx hb dX9_reset_40 rfl (lv_at hl 0 rfl) ?_
  refine lv_iconst (v := 0) hx hb dX9_reset_41 (by decide) ?_
  refine pf (ci := 8) (v := .int 0) (ty := .int) (C := RX9) (T := TX9) (N := 40) (ws' := [oX9 h_ 0 0 0 false 1 0 0 0 v_ins v_changed h_received h_marks v_receivedMany v_overrun h_sending v_sendingMany v_emptyUp v_lateUp v_lateCount h_waveHigh h_waveBeats v_waveMany v_lineIn v_sends v_sentCharacter v_sentForm v_sentBeat v_senderHigh v_takes v_sawHigh v_takenForm v_takenBeat v_takenBits v_takenParity v_beats v_out h_runHigh h_runBeats v_runs 0]) hx hb hts i_X9 tyX9_ok nmX9 hown hK hP hD hS 0 rfl rfl 7 (Nat.le_of_ble_eq_true rfl) f_61 rfl rfl (by decide +kernel) rfl rfl (Nat.le_of_ble_eq_true rfl) rfl dX9_reset_42 (fun H locs hP hD hS => ?_)
  refine lv_aload_n hx hb dX9_reset_45 rfl (lv_at hl 0 rfl) ?_
  refine lv_iconst (v := 0) hx hb dX9_reset_46 (by decide) ?_
  refine pf (ci := 8) (v := .int 0) (ty := .int) (C := RX9) (T := TX9) (N := 40) (ws' := [oX9 h_ 0 0 0 false 1 0 0 0 0 v_changed h_received h_marks v_receivedMany v_overrun h_sending v_sendingMany v_emptyUp v_lateUp v_lateCount h_waveHigh h_waveBeats v_waveMany v_lineIn v_sends v_sentCharacter v_sentForm v_sentBeat v_senderHigh v_takes v_sawHigh v_takenForm v_takenBeat v_takenBits v_takenParity v_beats v_out h_runHigh h_runBeats v_runs 0]) hx hb hts i_X9 tyX9_ok nmX9 hown hK hP hD hS 0 rfl rfl 8 (Nat.le_of_ble_eq_true rfl) f_64 rfl rfl (by decide +kernel) rfl rfl (Nat.le_of_ble_eq_true rfl) rfl dX9_reset_47 (fun H locs hP hD hS => ?_)
  refine lv_aload_n hx hb dX9_reset_50 rfl (lv_at hl 0 rfl) ?_
  refine lv_iconst (v := 0) hx hb dX9_reset_51 (by decide) ?_
  refine pf (ci := 8) (v := .int 0) (ty := .int) (C := RX9) (T := TX9) (N := 40) (ws' := [oX9 h_ 0 0 0 false 1 0 0 0 0 0 h_received h_marks v_receivedMany v_overrun h_sending v_sendingMany v_emptyUp v_lateUp v_lateCount h_waveHigh h_waveBeats v_waveMany v_lineIn v_sends v_sentCharacter v_sentForm v_sentBeat v_senderHigh v_takes v_sawHigh v_takenForm v_takenBeat v_takenBits v_takenParity v_beats v_out h_runHigh h_runBeats v_runs 0]) hx hb hts i_X9 tyX9_ok nmX9 hown hK hP hD hS 0 rfl rfl 9 (Nat.le_of_ble_eq_true rfl) f_67 rfl rfl (by decide +kernel) rfl rfl (Nat.le_of_ble_eq_true rfl) rfl dX9_reset_52 (fun H locs hP hD hS => ?_)
  refine lv_aload_n hx hb dX9_reset_55 rfl (lv_at hl 0 rfl) ?_
  refine lv_iconst (v := 0) hx hb dX9_reset_56 (by decide) ?_
  refine pf (ci := 8) (v := .int 0) (ty := .int) (C := RX9) (T := TX9) (N := 40) (ws' := [oX9 h_ 0 0 0 false 1 0 0 0 0 0 h_received h_marks 0 v_overrun h_sending v_sendingMany v_emptyUp v_lateUp v_lateCount h_waveHigh h_waveBeats v_waveMany v_lineIn v_sends v_sentCharacter v_sentForm v_sentBeat v_senderHigh v_takes v_sawHigh v_takenForm v_takenBeat v_takenBits v_takenParity v_beats v_out h_runHigh h_runBeats v_runs 0]) hx hb hts i_X9 tyX9_ok nmX9 hown hK hP hD hS 0 rfl rfl 12 (Nat.le_of_ble_eq_true rfl) f_70 rfl rfl (by decide +kernel) rfl rfl (Nat.le_of_ble_eq_true rfl) rfl dX9_reset_57 (fun H locs hP hD hS => ?_)
  refine lv_aload_n hx hb dX9_reset_60 rfl (lv_at hl 0 rfl) ?_
  refine lv_iconst (v := 0) hx hb dX9_reset_61 (by decide) ?_
  refine pf (ci := 8) (v := .int (bI false)) (ty := .boolean) (C := RX9) (T := TX9) (N := 40) (ws' := [oX9 h_ 0 0 0 false 1 0 0 0 0 0 h_received h_marks 0 false h_sending v_sendingMany v_emptyUp v_lateUp v_lateCount h_waveHigh h_waveBeats v_waveMany v_lineIn v_sends v_sentCharacter v_sentForm v_sentBeat v_senderHigh v_takes v_sawHigh v_takenForm v_takenBeat v_takenBits v_takenParity v_beats v_out h_runHigh h_runBeats v_runs 0]) hx hb hts i_X9 tyX9_ok nmX9 hown hK hP hD hS 0 rfl rfl 13 (Nat.le_of_ble_eq_true rfl) f_73 rfl rfl (by decide +kernel) (nar_bI false) (fit_bI false) (Nat.le_of_ble_eq_true rfl) rfl dX9_reset_62 (fun H locs hP hD hS => ?_)
  refine lv_aload_n hx hb dX9_reset_65 rfl (lv_at hl 0 rfl) ?_
  refine lv_iconst (v := 0) hx hb dX9_reset_66 (by decide) ?_
  refine pf (ci := 8) (v := .int 0) (ty := .int) (C := RX9) (T := TX9) (N := 40) (ws' := [oX9 h_ 0 0 0 false 1 0 0 0 0 0 h_received h_marks 0 false h_sending 0 v_emptyUp v_lateUp v_lateCount h_waveHigh h_waveBeats v_waveMany v_lineIn v_sends v_sentCharacter v_sentForm v_sentBeat v_senderHigh v_takes v_sawHigh v_takenForm v_takenBeat v_takenBits v_takenParity v_beats v_out h_runHigh h_runBeats v_runs 0]) hx hb hts i_X9 tyX9_ok nmX9 hown hK hP hD hS 0 rfl rfl 15 (Nat.le_of_ble_eq_true rfl) f_76 rfl rfl (by decide +kernel) rfl rfl (Nat.le_of_ble_eq_true rfl) rfl dX9_reset_67 (fun H locs hP hD hS => ?_)
  refine lv_aload_n hx hb dX9_reset_70 rfl (lv_at hl 0 rfl) ?_
  refine lv_iconst (v := 0) hx hb dX9_reset_71 (by decide) ?_
  refine pf (ci := 8) (v := .int (bI false)) (ty := .boolean) (C := RX9) (T := TX9) (N := 40) (ws' := [oX9 h_ 0 0 0 false 1 0 0 0 0 0 h_received h_marks 0 false h_sending 0 false v_lateUp v_lateCount h_waveHigh h_waveBeats v_waveMany v_lineIn v_sends v_sentCharacter v_sentForm v_sentBeat v_senderHigh v_takes v_sawHigh v_takenForm v_takenBeat v_takenBits v_takenParity v_beats v_out h_runHigh h_runBeats v_runs 0]) hx hb hts i_X9 tyX9_ok nmX9 hown hK hP hD hS 0 rfl rfl 16 (Nat.le_of_ble_eq_true rfl) f_79 rfl rfl (by decide +kernel) (nar_bI false) (fit_bI false) (Nat.le_of_ble_eq_true rfl) rfl dX9_reset_72 (fun H locs hP hD hS => ?_)
  refine lv_aload_n hx hb dX9_reset_75 rfl (lv_at hl 0 rfl) ?_
  refine lv_iconst (v := 0) hx hb dX9_reset_76 (by decide) ?_
  refine pf (ci := 8) (v := .int (bI false)) (ty := .boolean) (C := RX9) (T := TX9) (N := 40) (ws' := [oX9 h_ 0 0 0 false 1 0 0 0 0 0 h_received h_marks 0 false h_sending 0 false false v_lateCount h_waveHigh h_waveBeats v_waveMany v_lineIn v_sends v_sentCharacter v_sentForm v_sentBeat v_senderHigh v_takes v_sawHigh v_takenForm v_takenBeat v_takenBits v_takenParity v_beats v_out h_runHigh h_runBeats v_runs 0]) hx hb hts i_X9 tyX9_ok nmX9 hown hK hP hD hS 0 rfl rfl 17 (Nat.le_of_ble_eq_true rfl) f_82 rfl rfl (by decide +kernel) (nar_bI false) (fit_bI false) (Nat.le_of_ble_eq_true rfl) rfl dX9_reset_77 (fun H locs hP hD hS => ?_)
  refine lv_aload_n hx hb dX9_reset_80 rfl (lv_at hl 0 rfl) ?_
  refine lv_iconst (v := 0) hx hb dX9_reset_81 (by decide) ?_
  refine pf (ci := 8) (v := .int 0) (ty := .int) (C := RX9) (T := TX9) (N := 40) (ws' := [oX9 h_ 0 0 0 false 1 0 0 0 0 0 h_received h_marks 0 false h_sending 0 false false 0 h_waveHigh h_waveBeats v_waveMany v_lineIn v_sends v_sentCharacter v_sentForm v_sentBeat v_senderHigh v_takes v_sawHigh v_takenForm v_takenBeat v_takenBits v_takenParity v_beats v_out h_runHigh h_runBeats v_runs 0]) hx hb hts i_X9 tyX9_ok nmX9 hown hK hP hD hS 0 rfl rfl 18 (Nat.le_of_ble_eq_true rfl) f_85 rfl rfl (by decide +kernel) rfl rfl (Nat.le_of_ble_eq_true rfl) rfl dX9_reset_82 (fun H locs hP hD hS => ?_)
  refine lv_aload_n hx hb dX9_reset_85 rfl (lv_at hl 0 rfl) ?_
  refine lv_iconst (v := 0) hx hb dX9_reset_86 (by decide) ?_
  refine pf (ci := 8) (v := .int 0) (ty := .int) (C := RX9) (T := TX9) (N := 40) (ws' := [oX9 h_ 0 0 0 false 1 0 0 0 0 0 h_received h_marks 0 false h_sending 0 false false 0 h_waveHigh h_waveBeats 0 v_lineIn v_sends v_sentCharacter v_sentForm v_sentBeat v_senderHigh v_takes v_sawHigh v_takenForm v_takenBeat v_takenBits v_takenParity v_beats v_out h_runHigh h_runBeats v_runs 0]) hx hb hts i_X9 tyX9_ok nmX9 hown hK hP hD hS 0 rfl rfl 21 (Nat.le_of_ble_eq_true rfl) f_88 rfl rfl (by decide +kernel) rfl rfl (Nat.le_of_ble_eq_true rfl) rfl dX9_reset_87 (fun H locs hP hD hS => ?_)
  refine lv_aload_n hx hb dX9_reset_90 rfl (lv_at hl 0 rfl) ?_
  refine lv_iconst (v := 1) hx hb dX9_reset_91 (by decide) ?_
  refine pf (ci := 8) (v := .int (bI true)) (ty := .boolean) (C := RX9) (T := TX9) (N := 40) (ws' := [oX9 h_ 0 0 0 false 1 0 0 0 0 0 h_received h_marks 0 false h_sending 0 false false 0 h_waveHigh h_waveBeats 0 true v_sends v_sentCharacter v_sentForm v_sentBeat v_senderHigh v_takes v_sawHigh v_takenForm v_takenBeat v_takenBits v_takenParity v_beats v_out h_runHigh h_runBeats v_runs 0]) hx hb hts i_X9 tyX9_ok nmX9 hown hK hP hD hS 0 rfl rfl 22 (Nat.le_of_ble_eq_true rfl) f_91 rfl rfl (by decide +kernel) (nar_bI true) (fit_bI true) (Nat.le_of_ble_eq_true rfl) rfl dX9_reset_92 (fun H locs hP hD hS => ?_)
  refine lv_aload_n hx hb dX9_reset_95 rfl (lv_at hl 0 rfl) ?_
  refine lv_iconst (v := 0) hx hb dX9_reset_96 (by decide) ?_
  refine pf (ci := 8) (v := .int (bI false)) (ty := .boolean) (C := RX9) (T := TX9) (N := 40) (ws' := [oX9 h_ 0 0 0 false 1 0 0 0 0 0 h_received h_marks 0 false h_sending 0 false false 0 h_waveHigh h_waveBeats 0 true false v_sentCharacter v_sentForm v_sentBeat v_senderHigh v_takes v_sawHigh v_takenForm v_takenBeat v_takenBits v_takenParity v_beats v_out h_runHigh h_runBeats v_runs 0]) hx hb hts i_X9 tyX9_ok nmX9 hown hK hP hD hS 0 rfl rfl 23 (Nat.le_of_ble_eq_true rfl) f_94 rfl rfl (by decide +kernel) (nar_bI false) (fit_bI false) (Nat.le_of_ble_eq_true rfl) rfl dX9_reset_97 (fun H locs hP hD hS => ?_)
  refine lv_aload_n hx hb dX9_reset_100 rfl (lv_at hl 0 rfl) ?_
  refine lv_iconst (v := 1) hx hb dX9_reset_101 (by decide) ?_
  refine pf (ci := 8) (v := .int (bI true)) (ty := .boolean) (C := RX9) (T := TX9) (N := 40) (ws' := [oX9 h_ 0 0 0 false 1 0 0 0 0 0 h_received h_marks 0 false h_sending 0 false false 0 h_waveHigh h_waveBeats 0 true false v_sentCharacter v_sentForm v_sentBeat true v_takes v_sawHigh v_takenForm v_takenBeat v_takenBits v_takenParity v_beats v_out h_runHigh h_runBeats v_runs 0]) hx hb hts i_X9 tyX9_ok nmX9 hown hK hP hD hS 0 rfl rfl 27 (Nat.le_of_ble_eq_true rfl) f_97 rfl rfl (by decide +kernel) (nar_bI true) (fit_bI true) (Nat.le_of_ble_eq_true rfl) rfl dX9_reset_102 (fun H locs hP hD hS => ?_)
  refine lv_aload_n hx hb dX9_reset_105 rfl (lv_at hl 0 rfl) ?_
  refine lv_iconst (v := 0) hx hb dX9_reset_106 (by decide) ?_
  refine pf (ci := 8) (v := .int (bI false)) (ty := .boolean) (C := RX9) (T := TX9) (N := 40) (ws' := [oX9 h_ 0 0 0 false 1 0 0 0 0 0 h_received h_marks 0 false h_sending 0 false false 0 h_waveHigh h_waveBeats 0 true false v_sentCharacter v_sentForm v_sentBeat true false v_sawHigh v_takenForm v_takenBeat v_takenBits v_takenParity v_beats v_out h_runHigh h_runBeats v_runs 0]) hx hb hts i_X9 tyX9_ok nmX9 hown hK hP hD hS 0 rfl rfl 28 (Nat.le_of_ble_eq_true rfl) f_100 rfl rfl (by decide +kernel) (nar_bI false) (fit_bI false) (Nat.le_of_ble_eq_true rfl) rfl dX9_reset_107 (fun H locs hP hD hS => ?_)
  refine lv_aload_n hx hb dX9_reset_110 rfl (lv_at hl 0 rfl) ?_
  refine lv_iconst (v := 1) hx hb dX9_reset_111 (by decide) ?_
  refine pf (ci := 8) (v := .int (bI true)) (ty := .boolean) (C := RX9) (T := TX9) (N := 40) (ws' := [oX9 h_ 0 0 0 false 1 0 0 0 0 0 h_received h_marks 0 false h_sending 0 false false 0 h_waveHigh h_waveBeats 0 true false v_sentCharacter v_sentForm v_sentBeat true false true v_takenForm v_takenBeat v_takenBits v_takenParity v_beats v_out h_runHigh h_runBeats v_runs 0]) hx hb hts i_X9 tyX9_ok nmX9 hown hK hP hD hS 0 rfl rfl 29 (Nat.le_of_ble_eq_true rfl) f_103 rfl rfl (by decide +kernel) (nar_bI true) (fit_bI true) (Nat.le_of_ble_eq_true rfl) rfl dX9_reset_112 (fun H locs hP hD hS => ?_)
  refine lv_aload_n hx hb dX9_reset_115 rfl (lv_at hl 0 rfl) ?_
  refine lv_iconst (v := 0) hx hb dX9_reset_116 (by decide) ?_
  refine pf (ci := 8) (v := .int 0) (ty := .int) (C := RX9) (T := TX9) (N := 40) (ws' := [oX9 h_ 0 0 0 false 1 0 0 0 0 0 h_received h_marks 0 false h_sending 0 false false 0 h_waveHigh h_waveBeats 0 true false v_sentCharacter v_sentForm v_sentBeat true false true v_takenForm v_takenBeat v_takenBits v_takenParity 0 v_out h_runHigh h_runBeats v_runs 0]) hx hb hts i_X9 tyX9_ok nmX9 hown hK hP hD hS 0 rfl rfl 34 (Nat.le_of_ble_eq_true rfl) f_106 rfl rfl (by decide +kernel) rfl rfl (Nat.le_of_ble_eq_true rfl) rfl dX9_reset_117 (fun H locs hP hD hS => ?_)
  refine lv_aload_n hx hb dX9_reset_120 rfl (lv_at hl 0 rfl) ?_
  refine lv_iconst (v := 1) hx hb dX9_reset_121 (by decide) ?_
  refine pf (ci := 8) (v := .int (bI true)) (ty := .boolean) (C := RX9) (T := TX9) (N := 40) (ws' := [oX9 h_ 0 0 0 false 1 0 0 0 0 0 h_received h_marks 0 false h_sending 0 false false 0 h_waveHigh h_waveBeats 0 true false v_sentCharacter v_sentForm v_sentBeat true false true v_takenForm v_takenBeat v_takenBits v_takenParity 0 true h_runHigh h_runBeats v_runs 0]) hx hb hts i_X9 tyX9_ok nmX9 hown hK hP hD hS 0 rfl rfl 35 (Nat.le_of_ble_eq_true rfl) f_109 rfl rfl (by decide +kernel) (nar_bI true) (fit_bI true) (Nat.le_of_ble_eq_true rfl) rfl dX9_reset_122 (fun H locs hP hD hS => ?_)
  refine lv_aload_n hx hb dX9_reset_125 rfl (lv_at hl 0 rfl) ?_
  refine lv_iconst (v := 0) hx hb dX9_reset_126 (by decide) ?_
  refine pf (ci := 8) (v := .int 0) (ty := .int) (C := RX9) (T := TX9) (N := 40) (ws' := [oX9 h_ 0 0 0 false 1 0 0 0 0 0 h_received h_marks 0 false h_sending 0 false false 0 h_waveHigh h_waveBeats 0 true false v_sentCharacter v_sentForm v_sentBeat true false true v_takenForm v_takenBeat v_takenBits v_takenParity 0 true h_runHigh h_runBeats 0 0]) hx hb hts i_X9 tyX9_ok nmX9 hown hK hP hD hS 0 rfl rfl 38 (Nat.le_of_ble_eq_true rfl) f_112 rfl rfl (by decide +kernel) rfl rfl (Nat.le_of_ble_eq_true rfl) rfl dX9_reset_127 (fun H locs hP hD hS => ?_)
  exact hret (0, 0, 0, false, 1, 0, 0, 0, 0, 0, 0, false, 0, false, false, 0, 0, true, false, true, false, true, 0, true, 0, 0) _ _ 130 _ hP hD hS hF dX9_reset_130
def F_X9_dlab  (v_form : Int32) : Option (Bool) := if (v_form &&& 128) = 0 then (some false) else (some true)
def wX9_dlab (h_ : Nat) (h_received : Nat) (h_marks : Nat) (h_sending : Nat) (h_waveHigh : Nat) (h_waveBeats : Nat) (h_runHigh : Nat) (h_runBeats : Nat) (v_divisor : Int32) (v_clocks : Int32) (v_wanted : Int32) (v_rowsOn : Bool) (v_level : Int32) (v_form : Int32) (v_outputs : Int32) (v_byteKept : Int32) (v_ins : Int32) (v_changed : Int32) (v_receivedMany : Int32) (v_overrun : Bool) (v_sendingMany : Int32) (v_emptyUp : Bool) (v_lateUp : Bool) (v_lateCount : Int32) (v_waveMany : Int32) (v_lineIn : Bool) (v_sends : Bool) (v_sentCharacter : Int32) (v_sentForm : Int32) (v_sentBeat : Int32) (v_senderHigh : Bool) (v_takes : Bool) (v_sawHigh : Bool) (v_takenForm : Int32) (v_takenBeat : Int32) (v_takenBits : Int32) (v_takenParity : Int32) (v_beats : Int32) (v_out : Bool) (v_runs : Int32) (v_thrown : Int32) (_u : Bool) : va_W := [oX9 h_ v_divisor v_clocks v_wanted v_rowsOn v_level v_form v_outputs v_byteKept v_ins v_changed h_received h_marks v_receivedMany v_overrun h_sending v_sendingMany v_emptyUp v_lateUp v_lateCount h_waveHigh h_waveBeats v_waveMany v_lineIn v_sends v_sentCharacter v_sentForm v_sentBeat v_senderHigh v_takes v_sawHigh v_takenForm v_takenBeat v_takenBits v_takenParity v_beats v_out h_runHigh h_runBeats v_runs v_thrown]
set_option maxHeartbeats 4000000 in
set_option maxRecDepth 100000 in
theorem mX9_dlab {l : Launch} (D : va_G) (h_ : Nat) (h_received : Nat) (h_marks : Nat) (h_sending : Nat) (h_waveHigh : Nat) (h_waveBeats : Nat) (h_runHigh : Nat) (h_runBeats : Nat) (v_divisor : Int32) (v_clocks : Int32) (v_wanted : Int32) (v_rowsOn : Bool) (v_level : Int32) (v_form : Int32) (v_outputs : Int32) (v_byteKept : Int32) (v_ins : Int32) (v_changed : Int32) (v_receivedMany : Int32) (v_overrun : Bool) (v_sendingMany : Int32) (v_emptyUp : Bool) (v_lateUp : Bool) (v_lateCount : Int32) (v_waveMany : Int32) (v_lineIn : Bool) (v_sends : Bool) (v_sentCharacter : Int32) (v_sentForm : Int32) (v_sentBeat : Int32) (v_senderHigh : Bool) (v_takes : Bool) (v_sawHigh : Bool) (v_takenForm : Int32) (v_takenBeat : Int32) (v_takenBits : Int32) (v_takenParity : Int32) (v_beats : Int32) (v_out : Bool) (v_runs : Int32) (v_thrown : Int32) (u0 : Bool) (hF : F_X9_dlab v_form = some u0) : MI l yX9_dlab wsX9_dlab { frames := 0, cells := 0, slots := 0, locals := 0 } D [] [.ref h_] [oX9 h_ v_divisor v_clocks v_wanted v_rowsOn v_level v_form v_outputs v_byteKept v_ins v_changed h_received h_marks v_receivedMany v_overrun h_sending v_sendingMany v_emptyUp v_lateUp v_lateCount h_waveHigh h_waveBeats v_waveMany v_lineIn v_sends v_sentCharacter v_sentForm v_sentBeat v_senderHigh v_takes v_sawHigh v_takenForm v_takenBeat v_takenBits v_takenParity v_beats v_out h_runHigh h_runBeats v_runs v_thrown] (wX9_dlab h_ h_received h_marks h_sending h_waveHigh h_waveBeats h_runHigh h_runBeats v_divisor v_clocks v_wanted v_rowsOn v_level v_form v_outputs v_byteKept v_ins v_changed v_receivedMany v_overrun v_sendingMany v_emptyUp v_lateUp v_lateCount v_waveMany v_lineIn v_sends v_sentCharacter v_sentForm v_sentBeat v_senderHigh v_takes v_sawHigh v_takenForm v_takenBeat v_takenBits v_takenParity v_beats v_out v_runs v_thrown u0) (bI u0) := by
  refine MI.ofW (cc := cX9_dlab) (maxL := 1) (ret := (some .boolean)) (lv := [(0, .ref h_)]) (by decide +kernel) rfl (Nat.le_of_ble_eq_true rfl) rfl ?_
  intro p e s m args below meth c A ls hx hb hr hml hts hown hlocks hA hK hP hD hS hl
  replace hown : s.vm.findClass RX9 = some m.cls := hown
  have i_X9 : ∀ w ∈ wsX90, w ∈ wsX9_dlab := by decide +kernel
  have f_55 := hts (.fieldLink RX9 55 "SerialPortModel" "form" "I") (by decide +kernel)
  have hret : ∀ (u : Bool) (v : Int32) (H : Heap) (locs : List Loc) (pc : Nat) (ls : Array Slot), va_P D vwCl (wX9_dlab h_ h_received h_marks h_sending h_waveHigh h_waveBeats h_runHigh h_runBeats v_divisor v_clocks v_wanted v_rowsOn v_level v_form v_outputs v_byteKept v_ins v_changed v_receivedMany v_overrun v_sendingMany v_emptyUp v_lateUp v_lateCount v_waveMany v_lineIn v_sends v_sentCharacter v_sentForm v_sentBeat v_senderHigh v_takes v_sawHigh v_takenForm v_takenBeat v_takenBits v_takenParity v_beats v_out v_runs v_thrown u) H → va_D A (wX9_dlab h_ h_received h_marks h_sending h_waveHigh h_waveBeats h_runHigh h_runBeats v_divisor v_clocks v_wanted v_rowsOn v_level v_form v_outputs v_byteKept v_ins v_changed v_receivedMany v_overrun v_sendingMany v_emptyUp v_lateUp v_lateCount v_waveMany v_lineIn v_sends v_sentCharacter v_sentForm v_sentBeat v_senderHigh v_takes v_sawHigh v_takenForm v_takenBeat v_takenBits v_takenParity v_beats v_out v_runs v_thrown u) → va_S A s.heap H locs → some u = some u0 → v = bI u → decode cX9_dlab pc = .ok (.ireturn, 1) → W p l e { frames := 0, cells := 0, slots := 0, locals := 0 } s m args below meth c H locs 0 0 (QI below D [] (wX9_dlab h_ h_received h_marks h_sending h_waveHigh h_waveBeats h_runHigh h_runBeats v_divisor v_clocks v_wanted v_rowsOn v_level v_form v_outputs v_byteKept v_ins v_changed v_receivedMany v_overrun v_sendingMany v_emptyUp v_lateUp v_lateCount v_waveMany v_lineIn v_sends v_sentCharacter v_sentForm v_sentBeat v_senderHigh v_takes v_sawHigh v_takenForm v_takenBeat v_takenBits v_takenParity v_beats v_out v_runs v_thrown u0) (bI u0) args s A) (F0 m pc ls [.int v]) := fun u v H locs pc ls h1 h2 h3 h4 h5 h6 => rZ (wf := wX9_dlab h_ h_received h_marks h_sending h_waveHigh h_waveBeats h_runHigh h_runBeats v_divisor v_clocks v_wanted v_rowsOn v_level v_form v_outputs v_byteKept v_ins v_changed v_receivedMany v_overrun v_sendingMany v_emptyUp v_lateUp v_lateCount v_waveMany v_lineIn v_sends v_sentCharacter v_sentForm v_sentBeat v_senderHigh v_takes v_sawHigh v_takenForm v_takenBeat v_takenBits v_takenParity v_beats v_out v_runs v_thrown) (rf := fun u => u) hx hb hr hlocks hK h1 h2 h3 h4 h5 h6
  unfold F_X9_dlab at hF
  refine lv_aload_n hx hb dX9_dlab_0 rfl (lv_at hl 0 rfl) ?_
  refine va_get (D := D) (ci := 8) (v := .int v_form) (C := RX9) (T := TX9) (N := 40) hx hb hts i_X9 hown hK hP 0 rfl rfl 5 (Nat.le_of_ble_eq_true rfl) f_55 (fun _ h9 => h9) rfl dX9_dlab_1 ?_
  refine lv_sipush (v := 128) hx hb dX9_dlab_4 (by decide) ?_
  refine lv_iand hx hb dX9_dlab_7 ?_
  refine lv_if_eq (tgt := 15) hx hb dX9_dlab_8 (by decide) (fun c1 => ?_) (fun c1 => ?_)
  · replace hF := it_t c1 hF
    refine lv_iconst (v := 0) hx hb dX9_dlab_15 (by decide) ?_
    exact hret false 0 _ _ 16 _ hP hD hS hF rfl dX9_dlab_16
  · replace hF := it_f c1 hF
    refine lv_iconst (v := 1) hx hb dX9_dlab_11 (by decide) ?_
    refine lv_goto (tgt := 16) hx hb dX9_dlab_12 (by decide) ?_
    exact hret true 1 _ _ 16 _ hP hD hS hF rfl dX9_dlab_16
def F_X9_loops  (v_outputs : Int32) : Option (Bool) := if (v_outputs &&& 16) = 0 then (some false) else (some true)
def wX9_loops (h_ : Nat) (h_received : Nat) (h_marks : Nat) (h_sending : Nat) (h_waveHigh : Nat) (h_waveBeats : Nat) (h_runHigh : Nat) (h_runBeats : Nat) (v_divisor : Int32) (v_clocks : Int32) (v_wanted : Int32) (v_rowsOn : Bool) (v_level : Int32) (v_form : Int32) (v_outputs : Int32) (v_byteKept : Int32) (v_ins : Int32) (v_changed : Int32) (v_receivedMany : Int32) (v_overrun : Bool) (v_sendingMany : Int32) (v_emptyUp : Bool) (v_lateUp : Bool) (v_lateCount : Int32) (v_waveMany : Int32) (v_lineIn : Bool) (v_sends : Bool) (v_sentCharacter : Int32) (v_sentForm : Int32) (v_sentBeat : Int32) (v_senderHigh : Bool) (v_takes : Bool) (v_sawHigh : Bool) (v_takenForm : Int32) (v_takenBeat : Int32) (v_takenBits : Int32) (v_takenParity : Int32) (v_beats : Int32) (v_out : Bool) (v_runs : Int32) (v_thrown : Int32) (_u : Bool) : va_W := [oX9 h_ v_divisor v_clocks v_wanted v_rowsOn v_level v_form v_outputs v_byteKept v_ins v_changed h_received h_marks v_receivedMany v_overrun h_sending v_sendingMany v_emptyUp v_lateUp v_lateCount h_waveHigh h_waveBeats v_waveMany v_lineIn v_sends v_sentCharacter v_sentForm v_sentBeat v_senderHigh v_takes v_sawHigh v_takenForm v_takenBeat v_takenBits v_takenParity v_beats v_out h_runHigh h_runBeats v_runs v_thrown]
set_option maxHeartbeats 4000000 in
set_option maxRecDepth 100000 in
theorem mX9_loops {l : Launch} (D : va_G) (h_ : Nat) (h_received : Nat) (h_marks : Nat) (h_sending : Nat) (h_waveHigh : Nat) (h_waveBeats : Nat) (h_runHigh : Nat) (h_runBeats : Nat) (v_divisor : Int32) (v_clocks : Int32) (v_wanted : Int32) (v_rowsOn : Bool) (v_level : Int32) (v_form : Int32) (v_outputs : Int32) (v_byteKept : Int32) (v_ins : Int32) (v_changed : Int32) (v_receivedMany : Int32) (v_overrun : Bool) (v_sendingMany : Int32) (v_emptyUp : Bool) (v_lateUp : Bool) (v_lateCount : Int32) (v_waveMany : Int32) (v_lineIn : Bool) (v_sends : Bool) (v_sentCharacter : Int32) (v_sentForm : Int32) (v_sentBeat : Int32) (v_senderHigh : Bool) (v_takes : Bool) (v_sawHigh : Bool) (v_takenForm : Int32) (v_takenBeat : Int32) (v_takenBits : Int32) (v_takenParity : Int32) (v_beats : Int32) (v_out : Bool) (v_runs : Int32) (v_thrown : Int32) (u0 : Bool) (hF : F_X9_loops v_outputs = some u0) : MI l yX9_loops wsX9_loops { frames := 0, cells := 0, slots := 0, locals := 0 } D [] [.ref h_] [oX9 h_ v_divisor v_clocks v_wanted v_rowsOn v_level v_form v_outputs v_byteKept v_ins v_changed h_received h_marks v_receivedMany v_overrun h_sending v_sendingMany v_emptyUp v_lateUp v_lateCount h_waveHigh h_waveBeats v_waveMany v_lineIn v_sends v_sentCharacter v_sentForm v_sentBeat v_senderHigh v_takes v_sawHigh v_takenForm v_takenBeat v_takenBits v_takenParity v_beats v_out h_runHigh h_runBeats v_runs v_thrown] (wX9_loops h_ h_received h_marks h_sending h_waveHigh h_waveBeats h_runHigh h_runBeats v_divisor v_clocks v_wanted v_rowsOn v_level v_form v_outputs v_byteKept v_ins v_changed v_receivedMany v_overrun v_sendingMany v_emptyUp v_lateUp v_lateCount v_waveMany v_lineIn v_sends v_sentCharacter v_sentForm v_sentBeat v_senderHigh v_takes v_sawHigh v_takenForm v_takenBeat v_takenBits v_takenParity v_beats v_out v_runs v_thrown u0) (bI u0) := by
  refine MI.ofW (cc := cX9_loops) (maxL := 1) (ret := (some .boolean)) (lv := [(0, .ref h_)]) (by decide +kernel) rfl (Nat.le_of_ble_eq_true rfl) rfl ?_
  intro p e s m args below meth c A ls hx hb hr hml hts hown hlocks hA hK hP hD hS hl
  replace hown : s.vm.findClass RX9 = some m.cls := hown
  have i_X9 : ∀ w ∈ wsX90, w ∈ wsX9_loops := by decide +kernel
  have f_58 := hts (.fieldLink RX9 58 "SerialPortModel" "outputs" "I") (by decide +kernel)
  have hret : ∀ (u : Bool) (v : Int32) (H : Heap) (locs : List Loc) (pc : Nat) (ls : Array Slot), va_P D vwCl (wX9_loops h_ h_received h_marks h_sending h_waveHigh h_waveBeats h_runHigh h_runBeats v_divisor v_clocks v_wanted v_rowsOn v_level v_form v_outputs v_byteKept v_ins v_changed v_receivedMany v_overrun v_sendingMany v_emptyUp v_lateUp v_lateCount v_waveMany v_lineIn v_sends v_sentCharacter v_sentForm v_sentBeat v_senderHigh v_takes v_sawHigh v_takenForm v_takenBeat v_takenBits v_takenParity v_beats v_out v_runs v_thrown u) H → va_D A (wX9_loops h_ h_received h_marks h_sending h_waveHigh h_waveBeats h_runHigh h_runBeats v_divisor v_clocks v_wanted v_rowsOn v_level v_form v_outputs v_byteKept v_ins v_changed v_receivedMany v_overrun v_sendingMany v_emptyUp v_lateUp v_lateCount v_waveMany v_lineIn v_sends v_sentCharacter v_sentForm v_sentBeat v_senderHigh v_takes v_sawHigh v_takenForm v_takenBeat v_takenBits v_takenParity v_beats v_out v_runs v_thrown u) → va_S A s.heap H locs → some u = some u0 → v = bI u → decode cX9_loops pc = .ok (.ireturn, 1) → W p l e { frames := 0, cells := 0, slots := 0, locals := 0 } s m args below meth c H locs 0 0 (QI below D [] (wX9_loops h_ h_received h_marks h_sending h_waveHigh h_waveBeats h_runHigh h_runBeats v_divisor v_clocks v_wanted v_rowsOn v_level v_form v_outputs v_byteKept v_ins v_changed v_receivedMany v_overrun v_sendingMany v_emptyUp v_lateUp v_lateCount v_waveMany v_lineIn v_sends v_sentCharacter v_sentForm v_sentBeat v_senderHigh v_takes v_sawHigh v_takenForm v_takenBeat v_takenBits v_takenParity v_beats v_out v_runs v_thrown u0) (bI u0) args s A) (F0 m pc ls [.int v]) := fun u v H locs pc ls h1 h2 h3 h4 h5 h6 => rZ (wf := wX9_loops h_ h_received h_marks h_sending h_waveHigh h_waveBeats h_runHigh h_runBeats v_divisor v_clocks v_wanted v_rowsOn v_level v_form v_outputs v_byteKept v_ins v_changed v_receivedMany v_overrun v_sendingMany v_emptyUp v_lateUp v_lateCount v_waveMany v_lineIn v_sends v_sentCharacter v_sentForm v_sentBeat v_senderHigh v_takes v_sawHigh v_takenForm v_takenBeat v_takenBits v_takenParity v_beats v_out v_runs v_thrown) (rf := fun u => u) hx hb hr hlocks hK h1 h2 h3 h4 h5 h6
  unfold F_X9_loops at hF
  refine lv_aload_n hx hb dX9_loops_0 rfl (lv_at hl 0 rfl) ?_
  refine va_get (D := D) (ci := 8) (v := .int v_outputs) (C := RX9) (T := TX9) (N := 40) hx hb hts i_X9 hown hK hP 0 rfl rfl 6 (Nat.le_of_ble_eq_true rfl) f_58 (fun _ h9 => h9) rfl dX9_loops_1 ?_
  refine lv_bipush (v := 16) hx hb dX9_loops_4 (by decide) ?_
  refine lv_iand hx hb dX9_loops_6 ?_
  refine lv_if_eq (tgt := 14) hx hb dX9_loops_7 (by decide) (fun c1 => ?_) (fun c1 => ?_)
  · replace hF := it_t c1 hF
    refine lv_iconst (v := 0) hx hb dX9_loops_14 (by decide) ?_
    exact hret false 0 _ _ 15 _ hP hD hS hF rfl dX9_loops_15
  · replace hF := it_f c1 hF
    refine lv_iconst (v := 1) hx hb dX9_loops_10 (by decide) ?_
    refine lv_goto (tgt := 15) hx hb dX9_loops_11 (by decide) ?_
    exact hret true 1 _ _ 15 _ hP hD hS hF rfl dX9_loops_15
def F_X9_room  (v_rowsOn : Bool) : Option (Int32) := bt v_rowsOn (some (16 : Int32)) (some (1 : Int32))
def wX9_room (h_ : Nat) (h_received : Nat) (h_marks : Nat) (h_sending : Nat) (h_waveHigh : Nat) (h_waveBeats : Nat) (h_runHigh : Nat) (h_runBeats : Nat) (v_divisor : Int32) (v_clocks : Int32) (v_wanted : Int32) (v_rowsOn : Bool) (v_level : Int32) (v_form : Int32) (v_outputs : Int32) (v_byteKept : Int32) (v_ins : Int32) (v_changed : Int32) (v_receivedMany : Int32) (v_overrun : Bool) (v_sendingMany : Int32) (v_emptyUp : Bool) (v_lateUp : Bool) (v_lateCount : Int32) (v_waveMany : Int32) (v_lineIn : Bool) (v_sends : Bool) (v_sentCharacter : Int32) (v_sentForm : Int32) (v_sentBeat : Int32) (v_senderHigh : Bool) (v_takes : Bool) (v_sawHigh : Bool) (v_takenForm : Int32) (v_takenBeat : Int32) (v_takenBits : Int32) (v_takenParity : Int32) (v_beats : Int32) (v_out : Bool) (v_runs : Int32) (v_thrown : Int32) (_u : Int32) : va_W := [oX9 h_ v_divisor v_clocks v_wanted v_rowsOn v_level v_form v_outputs v_byteKept v_ins v_changed h_received h_marks v_receivedMany v_overrun h_sending v_sendingMany v_emptyUp v_lateUp v_lateCount h_waveHigh h_waveBeats v_waveMany v_lineIn v_sends v_sentCharacter v_sentForm v_sentBeat v_senderHigh v_takes v_sawHigh v_takenForm v_takenBeat v_takenBits v_takenParity v_beats v_out h_runHigh h_runBeats v_runs v_thrown]
set_option maxHeartbeats 4000000 in
set_option maxRecDepth 100000 in
theorem mX9_room {l : Launch} (D : va_G) (h_ : Nat) (h_received : Nat) (h_marks : Nat) (h_sending : Nat) (h_waveHigh : Nat) (h_waveBeats : Nat) (h_runHigh : Nat) (h_runBeats : Nat) (v_divisor : Int32) (v_clocks : Int32) (v_wanted : Int32) (v_rowsOn : Bool) (v_level : Int32) (v_form : Int32) (v_outputs : Int32) (v_byteKept : Int32) (v_ins : Int32) (v_changed : Int32) (v_receivedMany : Int32) (v_overrun : Bool) (v_sendingMany : Int32) (v_emptyUp : Bool) (v_lateUp : Bool) (v_lateCount : Int32) (v_waveMany : Int32) (v_lineIn : Bool) (v_sends : Bool) (v_sentCharacter : Int32) (v_sentForm : Int32) (v_sentBeat : Int32) (v_senderHigh : Bool) (v_takes : Bool) (v_sawHigh : Bool) (v_takenForm : Int32) (v_takenBeat : Int32) (v_takenBits : Int32) (v_takenParity : Int32) (v_beats : Int32) (v_out : Bool) (v_runs : Int32) (v_thrown : Int32) (u0 : Int32) (hF : F_X9_room v_rowsOn = some u0) : MI l yX9_room wsX9_room { frames := 0, cells := 0, slots := 0, locals := 0 } D [] [.ref h_] [oX9 h_ v_divisor v_clocks v_wanted v_rowsOn v_level v_form v_outputs v_byteKept v_ins v_changed h_received h_marks v_receivedMany v_overrun h_sending v_sendingMany v_emptyUp v_lateUp v_lateCount h_waveHigh h_waveBeats v_waveMany v_lineIn v_sends v_sentCharacter v_sentForm v_sentBeat v_senderHigh v_takes v_sawHigh v_takenForm v_takenBeat v_takenBits v_takenParity v_beats v_out h_runHigh h_runBeats v_runs v_thrown] (wX9_room h_ h_received h_marks h_sending h_waveHigh h_waveBeats h_runHigh h_runBeats v_divisor v_clocks v_wanted v_rowsOn v_level v_form v_outputs v_byteKept v_ins v_changed v_receivedMany v_overrun v_sendingMany v_emptyUp v_lateUp v_lateCount v_waveMany v_lineIn v_sends v_sentCharacter v_sentForm v_sentBeat v_senderHigh v_takes v_sawHigh v_takenForm v_takenBeat v_takenBits v_takenParity v_beats v_out v_runs v_thrown u0) (u0) := by
  refine MI.ofW (cc := cX9_room) (maxL := 1) (ret := (some .int)) (lv := [(0, .ref h_)]) (by decide +kernel) rfl (Nat.le_of_ble_eq_true rfl) rfl ?_
  intro p e s m args below meth c A ls hx hb hr hml hts hown hlocks hA hK hP hD hS hl
  replace hown : s.vm.findClass RX9 = some m.cls := hown
  have i_X9 : ∀ w ∈ wsX90, w ∈ wsX9_room := by decide +kernel
  have f_48 := hts (.fieldLink RX9 48 "SerialPortModel" "rowsOn" "Z") (by decide +kernel)
  have hret : ∀ (u : Int32) (v : Int32) (H : Heap) (locs : List Loc) (pc : Nat) (ls : Array Slot), va_P D vwCl (wX9_room h_ h_received h_marks h_sending h_waveHigh h_waveBeats h_runHigh h_runBeats v_divisor v_clocks v_wanted v_rowsOn v_level v_form v_outputs v_byteKept v_ins v_changed v_receivedMany v_overrun v_sendingMany v_emptyUp v_lateUp v_lateCount v_waveMany v_lineIn v_sends v_sentCharacter v_sentForm v_sentBeat v_senderHigh v_takes v_sawHigh v_takenForm v_takenBeat v_takenBits v_takenParity v_beats v_out v_runs v_thrown u) H → va_D A (wX9_room h_ h_received h_marks h_sending h_waveHigh h_waveBeats h_runHigh h_runBeats v_divisor v_clocks v_wanted v_rowsOn v_level v_form v_outputs v_byteKept v_ins v_changed v_receivedMany v_overrun v_sendingMany v_emptyUp v_lateUp v_lateCount v_waveMany v_lineIn v_sends v_sentCharacter v_sentForm v_sentBeat v_senderHigh v_takes v_sawHigh v_takenForm v_takenBeat v_takenBits v_takenParity v_beats v_out v_runs v_thrown u) → va_S A s.heap H locs → some u = some u0 → v = u → decode cX9_room pc = .ok (.ireturn, 1) → W p l e { frames := 0, cells := 0, slots := 0, locals := 0 } s m args below meth c H locs 0 0 (QI below D [] (wX9_room h_ h_received h_marks h_sending h_waveHigh h_waveBeats h_runHigh h_runBeats v_divisor v_clocks v_wanted v_rowsOn v_level v_form v_outputs v_byteKept v_ins v_changed v_receivedMany v_overrun v_sendingMany v_emptyUp v_lateUp v_lateCount v_waveMany v_lineIn v_sends v_sentCharacter v_sentForm v_sentBeat v_senderHigh v_takes v_sawHigh v_takenForm v_takenBeat v_takenBits v_takenParity v_beats v_out v_runs v_thrown u0) (u0) args s A) (F0 m pc ls [.int v]) := fun u v H locs pc ls h1 h2 h3 h4 h5 h6 => rI (wf := wX9_room h_ h_received h_marks h_sending h_waveHigh h_waveBeats h_runHigh h_runBeats v_divisor v_clocks v_wanted v_rowsOn v_level v_form v_outputs v_byteKept v_ins v_changed v_receivedMany v_overrun v_sendingMany v_emptyUp v_lateUp v_lateCount v_waveMany v_lineIn v_sends v_sentCharacter v_sentForm v_sentBeat v_senderHigh v_takes v_sawHigh v_takenForm v_takenBeat v_takenBits v_takenParity v_beats v_out v_runs v_thrown) (rf := fun u => u) hx hb hr hlocks hK h1 h2 h3 h4 h5 h6
  unfold F_X9_room at hF
  refine lv_aload_n hx hb dX9_room_0 rfl (lv_at hl 0 rfl) ?_
  refine va_get (D := D) (ci := 8) (v := .int (bI v_rowsOn)) (C := RX9) (T := TX9) (N := 40) hx hb hts i_X9 hown hK hP 0 rfl rfl 3 (Nat.le_of_ble_eq_true rfl) f_48 (fun _ h9 => h9) rfl dX9_room_1 ?_
  refine lv_if_eq (tgt := 12) hx hb dX9_room_4 (by decide) (fun c1 => ?_) (fun c1 => ?_)
  · replace hF := bt_f (bI_0 c1) hF
    refine lv_iconst (v := 1) hx hb dX9_room_12 (by decide) ?_
    exact hret (1 : Int32) 1 _ _ 13 _ hP hD hS hF rfl dX9_room_13
  · replace hF := bt_t (bI_n0 c1) hF
    refine lv_bipush (v := 16) hx hb dX9_room_7 (by decide) ?_
    refine lv_goto (tgt := 13) hx hb dX9_room_9 (by decide) ?_
    exact hret (16 : Int32) 16 _ _ 13 _ hP hD hS hF rfl dX9_room_13
def F_X9_bitsOf (p1 : Int32)  : Option (Int32) := some (5 + (p1 &&& 3))
def wX9_bitsOf  (_u : Int32) : va_W := []
set_option maxHeartbeats 4000000 in
set_option maxRecDepth 100000 in
theorem mX9_bitsOf {l : Launch} (D : va_G) (p1 : Int32) (u0 : Int32) (hF : F_X9_bitsOf p1 = some u0) : MI l yX9_bitsOf wsX9_bitsOf { frames := 0, cells := 0, slots := 0, locals := 0 } D [] [.int p1] [] (wX9_bitsOf u0) (u0) := by
  refine MI.ofW (cc := cX9_bitsOf) (maxL := 1) (ret := (some .int)) (lv := [(0, .int p1)]) (by decide +kernel) rfl (Nat.le_of_ble_eq_true rfl) rfl ?_
  intro p e s m args below meth c A ls hx hb hr hml hts hown hlocks hA hK hP hD hS hl
  replace hown : s.vm.findClass RX9 = some m.cls := hown
  have hret : ∀ (u : Int32) (v : Int32) (H : Heap) (locs : List Loc) (pc : Nat) (ls : Array Slot), va_P D vwCl (wX9_bitsOf u) H → va_D A (wX9_bitsOf u) → va_S A s.heap H locs → some u = some u0 → v = u → decode cX9_bitsOf pc = .ok (.ireturn, 1) → W p l e { frames := 0, cells := 0, slots := 0, locals := 0 } s m args below meth c H locs 0 0 (QI below D [] (wX9_bitsOf u0) (u0) args s A) (F0 m pc ls [.int v]) := fun u v H locs pc ls h1 h2 h3 h4 h5 h6 => rI (wf := wX9_bitsOf) (rf := fun u => u) hx hb hr hlocks hK h1 h2 h3 h4 h5 h6
  unfold F_X9_bitsOf at hF
  refine lv_iconst (v := 5) hx hb dX9_bitsOf_0 (by decide) ?_
  refine lv_iload_n hx hb dX9_bitsOf_1 rfl (lv_at hl 0 rfl) ?_
  refine lv_iconst (v := 3) hx hb dX9_bitsOf_2 (by decide) ?_
  refine lv_iand hx hb dX9_bitsOf_3 ?_
  refine lv_iadd hx hb dX9_bitsOf_4 ?_
  exact hret (5 + (p1 &&& 3)) (5 + (p1 &&& 3)) _ _ 5 _ hP hD hS hF rfl dX9_bitsOf_5
def F_X9_hasParity (p1 : Int32)  : Option (Bool) := if (p1 &&& 8) = 0 then (some false) else (some true)
def wX9_hasParity  (_u : Bool) : va_W := []
set_option maxHeartbeats 4000000 in
set_option maxRecDepth 100000 in
theorem mX9_hasParity {l : Launch} (D : va_G) (p1 : Int32) (u0 : Bool) (hF : F_X9_hasParity p1 = some u0) : MI l yX9_hasParity wsX9_hasParity { frames := 0, cells := 0, slots := 0, locals := 0 } D [] [.int p1] [] (wX9_hasParity u0) (bI u0) := by
  refine MI.ofW (cc := cX9_hasParity) (maxL := 1) (ret := (some .boolean)) (lv := [(0, .int p1)]) (by decide +kernel) rfl (Nat.le_of_ble_eq_true rfl) rfl ?_
  intro p e s m args below meth c A ls hx hb hr hml hts hown hlocks hA hK hP hD hS hl
  replace hown : s.vm.findClass RX9 = some m.cls := hown
  have hret : ∀ (u : Bool) (v : Int32) (H : Heap) (locs : List Loc) (pc : Nat) (ls : Array Slot), va_P D vwCl (wX9_hasParity u) H → va_D A (wX9_hasParity u) → va_S A s.heap H locs → some u = some u0 → v = bI u → decode cX9_hasParity pc = .ok (.ireturn, 1) → W p l e { frames := 0, cells := 0, slots := 0, locals := 0 } s m args below meth c H locs 0 0 (QI below D [] (wX9_hasParity u0) (bI u0) args s A) (F0 m pc ls [.int v]) := fun u v H locs pc ls h1 h2 h3 h4 h5 h6 => rZ (wf := wX9_hasParity) (rf := fun u => u) hx hb hr hlocks hK h1 h2 h3 h4 h5 h6
  unfold F_X9_hasParity at hF
  refine lv_iload_n hx hb dX9_hasParity_0 rfl (lv_at hl 0 rfl) ?_
  refine lv_bipush (v := 8) hx hb dX9_hasParity_1 (by decide) ?_
  refine lv_iand hx hb dX9_hasParity_3 ?_
  refine lv_if_eq (tgt := 11) hx hb dX9_hasParity_4 (by decide) (fun c1 => ?_) (fun c1 => ?_)
  · replace hF := it_t c1 hF
    refine lv_iconst (v := 0) hx hb dX9_hasParity_11 (by decide) ?_
    exact hret false 0 _ _ 12 _ hP hD hS hF rfl dX9_hasParity_12
  · replace hF := it_f c1 hF
    refine lv_iconst (v := 1) hx hb dX9_hasParity_7 (by decide) ?_
    refine lv_goto (tgt := 12) hx hb dX9_hasParity_8 (by decide) ?_
    exact hret true 1 _ _ 12 _ hP hD hS hF rfl dX9_hasParity_12
def F_X9_parityOf (p1 : Int32) (p2 : Int32)  : Option (Int32) := if (p1 &&& 32) = 0 then (bd (F_X9_bitsOf p1) (fun u2 => bd (F_J6_bitCount_0f7a4 (p2 &&& ((1 <<< (u2 &&& 31)) - 1))) (fun u3 => lt1 (u3 &&& 1) (fun x4 => if (p1 &&& 16) = 0 then (some (1 - x4)) else (some x4))))) else (if (p1 &&& 16) = 0 then (some (1 : Int32)) else (some (0 : Int32)))
def wX9_parityOf  (_u : Int32) : va_W := []
set_option maxHeartbeats 4000000 in
set_option maxRecDepth 100000 in
theorem mX9_parityOf {l : Launch} (D : va_G) (p1 : Int32) (p2 : Int32) (u0 : Int32) (hF : F_X9_parityOf p1 p2 = some u0) : MI l yX9_parityOf wsX9_parityOf { frames := 1, cells := 0, slots := 0, locals := 20 } D [] [.int p1, .int p2] [] (wX9_parityOf u0) (u0) := by
  refine MI.ofW (cc := cX9_parityOf) (maxL := 3) (ret := (some .int)) (lv := [(0, .int p1), (1, .int p2)]) (by decide +kernel) rfl (Nat.le_of_ble_eq_true rfl) rfl ?_
  intro p e s m args below meth c A ls hx hb hr hml hts hown hlocks hA hK hP hD hS hl
  replace hown : s.vm.findClass RX9 = some m.cls := hown
  have hret : ∀ (u : Int32) (v : Int32) (H : Heap) (locs : List Loc) (pc : Nat) (ls : Array Slot), va_P D vwCl (wX9_parityOf u) H → va_D A (wX9_parityOf u) → va_S A s.heap H locs → some u = some u0 → v = u → decode cX9_parityOf pc = .ok (.ireturn, 1) → W p l e { frames := 1, cells := 0, slots := 0, locals := 20 } s m args below meth c H locs 0 0 (QI below D [] (wX9_parityOf u0) (u0) args s A) (F0 m pc ls [.int v]) := fun u v H locs pc ls h1 h2 h3 h4 h5 h6 => rI (wf := wX9_parityOf) (rf := fun u => u) hx hb hr hlocks hK h1 h2 h3 h4 h5 h6
  unfold F_X9_parityOf at hF
  refine lv_iload_n hx hb dX9_parityOf_0 rfl (lv_at hl 0 rfl) ?_
  refine lv_bipush (v := 32) hx hb dX9_parityOf_1 (by decide) ?_
  refine lv_iand hx hb dX9_parityOf_3 ?_
  refine lv_if_eq (tgt := 20) hx hb dX9_parityOf_4 (by decide) (fun c1 => ?_) (fun c1 => ?_)
  · replace hF := it_t c1 hF
    refine lv_iload_n hx hb dX9_parityOf_20 rfl (lv_at hl 1 rfl) ?_
    refine lv_iconst (v := 1) hx hb dX9_parityOf_21 (by decide) ?_
    refine lv_iload_n hx hb dX9_parityOf_22 rfl (lv_at hl 0 rfl) ?_
    obtain ⟨u2, hu2, hF⟩ := bd_el hF
    refine cSI (As := [.int p1]) (rest := [.int 1, .int p2]) (wr := []) (ws' := []) (rv := u2) ⟨hx, hb, hml, hown, hts⟩ (mX9_bitsOf D p1 u2 hu2) (va_cwS 1 hts gX9_parityOf_X9_bitsOf rfl rfl rfl (by decide +kernel) ⟨Nat.le_of_ble_eq_true rfl, Nat.le_of_ble_eq_true rfl⟩) hK hP hD hS hA [] [] [] [] rfl rfl rfl rfl rfl rfl hl.1 rfl (Nat.le_of_ble_eq_true rfl) rfl dX9_parityOf_23 ⟨Nat.le_refl _, Nat.le_refl _⟩ (fun H locs hP hD hS => ?_)
    refine lv_ishl hx hb dX9_parityOf_26 ?_
    refine lv_iconst (v := 1) hx hb dX9_parityOf_27 (by decide) ?_
    refine lv_isub hx hb dX9_parityOf_28 ?_
    refine lv_iand hx hb dX9_parityOf_29 ?_
    obtain ⟨u3, hu3, hF⟩ := bd_el hF
    refine cSI (As := [.int (p2 &&& ((1 <<< (u2 &&& 31)) - 1))]) (rest := []) (wr := []) (ws' := []) (rv := u3) ⟨hx, hb, hml, hown, hts⟩ (mJ6_bitCount_0f7a4 D (p2 &&& ((1 <<< (u2 &&& 31)) - 1)) u3 hu3) (va_cwS 1 hts gX9_parityOf_J6_bitCount_0f7a4 rfl rfl rfl (by decide +kernel) ⟨Nat.le_of_ble_eq_true rfl, Nat.le_of_ble_eq_true rfl⟩) hK hP hD hS hA [] [] [] [] rfl rfl rfl rfl rfl rfl hl.1 rfl (Nat.le_of_ble_eq_true rfl) rfl dX9_parityOf_30 ⟨Nat.le_refl _, Nat.le_refl _⟩ (fun H locs hP hD hS => ?_)
    refine lv_iconst (v := 1) hx hb dX9_parityOf_33 (by decide) ?_
    refine lv_iand hx hb dX9_parityOf_34 ?_
    refine lv_topi (fun x4 ex4 => ?_)
    replace hF := lt1_x ex4 hF
    refine lv_istore_n (lv' := [(2, .int x4), (0, .int p1), (1, .int p2)]) hx hb dX9_parityOf_35 rfl hl (Nat.le_of_ble_eq_true rfl) rfl (fun ls hl => ?_)
    refine lv_iload_n hx hb dX9_parityOf_36 rfl (lv_at hl 1 rfl) ?_
    refine lv_bipush (v := 16) hx hb dX9_parityOf_37 (by decide) ?_
    refine lv_iand hx hb dX9_parityOf_39 ?_
    refine lv_if_eq (tgt := 47) hx hb dX9_parityOf_40 (by decide) (fun c5 => ?_) (fun c5 => ?_)
    · replace hF := it_t c5 hF
      refine lv_iconst (v := 1) hx hb dX9_parityOf_47 (by decide) ?_
      refine lv_iload_n hx hb dX9_parityOf_48 rfl (lv_at hl 0 rfl) ?_
      refine lv_isub hx hb dX9_parityOf_49 ?_
      exact hret (1 - x4) (1 - x4) _ _ 50 _ hP hD hS hF rfl dX9_parityOf_50
    · replace hF := it_f c5 hF
      refine lv_iload_n hx hb dX9_parityOf_43 rfl (lv_at hl 0 rfl) ?_
      refine lv_goto (tgt := 50) hx hb dX9_parityOf_44 (by decide) ?_
      exact hret x4 x4 _ _ 50 _ hP hD hS hF rfl dX9_parityOf_50
  · replace hF := it_f c1 hF
    refine lv_iload_n hx hb dX9_parityOf_7 rfl (lv_at hl 0 rfl) ?_
    refine lv_bipush (v := 16) hx hb dX9_parityOf_8 (by decide) ?_
    refine lv_iand hx hb dX9_parityOf_10 ?_
    refine lv_if_eq (tgt := 18) hx hb dX9_parityOf_11 (by decide) (fun c6 => ?_) (fun c6 => ?_)
    · replace hF := it_t c6 hF
      refine lv_iconst (v := 1) hx hb dX9_parityOf_18 (by decide) ?_
      exact hret (1 : Int32) 1 _ _ 19 _ hP hD hS hF rfl dX9_parityOf_19
    · replace hF := it_f c6 hF
      refine lv_iconst (v := 0) hx hb dX9_parityOf_14 (by decide) ?_
      refine lv_goto (tgt := 19) hx hb dX9_parityOf_15 (by decide) ?_
      exact hret (0 : Int32) 0 _ _ 19 _ hP hD hS hF rfl dX9_parityOf_19
def F_X9_stopOf (p1 : Int32)  : Option (Int32) := if (p1 &&& 4) = 0 then (some (16 : Int32)) else (bd (F_X9_bitsOf p1) (fun u2 => if u2 = 5 then (some (24 : Int32)) else (some (32 : Int32))))
def wX9_stopOf  (_u : Int32) : va_W := []
set_option maxHeartbeats 4000000 in
set_option maxRecDepth 100000 in
theorem mX9_stopOf {l : Launch} (D : va_G) (p1 : Int32) (u0 : Int32) (hF : F_X9_stopOf p1 = some u0) : MI l yX9_stopOf wsX9_stopOf { frames := 1, cells := 0, slots := 0, locals := 20 } D [] [.int p1] [] (wX9_stopOf u0) (u0) := by
  refine MI.ofW (cc := cX9_stopOf) (maxL := 1) (ret := (some .int)) (lv := [(0, .int p1)]) (by decide +kernel) rfl (Nat.le_of_ble_eq_true rfl) rfl ?_
  intro p e s m args below meth c A ls hx hb hr hml hts hown hlocks hA hK hP hD hS hl
  replace hown : s.vm.findClass RX9 = some m.cls := hown
  have hret : ∀ (u : Int32) (v : Int32) (H : Heap) (locs : List Loc) (pc : Nat) (ls : Array Slot), va_P D vwCl (wX9_stopOf u) H → va_D A (wX9_stopOf u) → va_S A s.heap H locs → some u = some u0 → v = u → decode cX9_stopOf pc = .ok (.ireturn, 1) → W p l e { frames := 1, cells := 0, slots := 0, locals := 20 } s m args below meth c H locs 0 0 (QI below D [] (wX9_stopOf u0) (u0) args s A) (F0 m pc ls [.int v]) := fun u v H locs pc ls h1 h2 h3 h4 h5 h6 => rI (wf := wX9_stopOf) (rf := fun u => u) hx hb hr hlocks hK h1 h2 h3 h4 h5 h6
  unfold F_X9_stopOf at hF
  refine lv_iload_n hx hb dX9_stopOf_0 rfl (lv_at hl 0 rfl) ?_
  refine lv_iconst (v := 4) hx hb dX9_stopOf_1 (by decide) ?_
  refine lv_iand hx hb dX9_stopOf_2 ?_
  refine lv_if_ne (tgt := 11) hx hb dX9_stopOf_3 (by decide) (fun c1 => ?_) (fun c1 => ?_)
  · replace hF := it_f c1 hF
    refine lv_iload_n hx hb dX9_stopOf_11 rfl (lv_at hl 0 rfl) ?_
    obtain ⟨u2, hu2, hF⟩ := bd_el hF
    refine cSI (As := [.int p1]) (rest := []) (wr := []) (ws' := []) (rv := u2) ⟨hx, hb, hml, hown, hts⟩ (mX9_bitsOf D p1 u2 hu2) (va_cwS 1 hts gX9_stopOf_X9_bitsOf rfl rfl rfl (by decide +kernel) ⟨Nat.le_of_ble_eq_true rfl, Nat.le_of_ble_eq_true rfl⟩) hK hP hD hS hA [] [] [] [] rfl rfl rfl rfl rfl rfl hl.1 rfl (Nat.le_of_ble_eq_true rfl) rfl dX9_stopOf_12 ⟨Nat.le_refl _, Nat.le_refl _⟩ (fun H locs hP hD hS => ?_)
    refine lv_iconst (v := 5) hx hb dX9_stopOf_15 (by decide) ?_
    refine lv_icmp_ne (tgt := 24) hx hb dX9_stopOf_16 (by decide) (fun c3 => ?_) (fun c3 => ?_)
    · replace hF := it_f c3 hF
      refine lv_bipush (v := 32) hx hb dX9_stopOf_24 (by decide) ?_
      exact hret (32 : Int32) 32 _ _ 26 _ hP hD hS hF rfl dX9_stopOf_26
    · replace hF := it_t c3 hF
      refine lv_bipush (v := 24) hx hb dX9_stopOf_19 (by decide) ?_
      refine lv_goto (tgt := 26) hx hb dX9_stopOf_21 (by decide) ?_
      exact hret (24 : Int32) 24 _ _ 26 _ hP hD hS hF rfl dX9_stopOf_26
  · replace hF := it_t c1 hF
    refine lv_bipush (v := 16) hx hb dX9_stopOf_6 (by decide) ?_
    refine lv_goto (tgt := 26) hx hb dX9_stopOf_8 (by decide) ?_
    exact hret (16 : Int32) 16 _ _ 26 _ hP hD hS hF rfl dX9_stopOf_26
def F_X9_frameOf_20  (s0 : Int32) (s1 : Int32) (s2 : Bool) (l0 : Int32) : Option (Int32) := bd (F_X9_stopOf l0) (fun u1 => some ((s0 * (s1 + (bI s2))) + u1))
def F_X9_frameOf (p1 : Int32)  : Option (Int32) := bd (F_X9_bitsOf p1) (fun u2 => bd (F_X9_hasParity p1) (fun u3 => bt u3 (F_X9_frameOf_20  16 (1 + u2) true p1) (F_X9_frameOf_20  16 (1 + u2) false p1)))
def wX9_frameOf  (_u : Int32) : va_W := []
set_option maxHeartbeats 4000000 in
set_option maxRecDepth 100000 in
theorem mX9_frameOf {l : Launch} (D : va_G) (p1 : Int32) (u0 : Int32) (hF : F_X9_frameOf p1 = some u0) : MI l yX9_frameOf wsX9_frameOf { frames := 2, cells := 0, slots := 0, locals := 40 } D [] [.int p1] [] (wX9_frameOf u0) (u0) := by
  refine MI.ofW (cc := cX9_frameOf) (maxL := 1) (ret := (some .int)) (lv := [(0, .int p1)]) (by decide +kernel) rfl (Nat.le_of_ble_eq_true rfl) rfl ?_
  intro p e s m args below meth c A ls hx hb hr hml hts hown hlocks hA hK hP hD hS hl
  replace hown : s.vm.findClass RX9 = some m.cls := hown
  have hret : ∀ (u : Int32) (v : Int32) (H : Heap) (locs : List Loc) (pc : Nat) (ls : Array Slot), va_P D vwCl (wX9_frameOf u) H → va_D A (wX9_frameOf u) → va_S A s.heap H locs → some u = some u0 → v = u → decode cX9_frameOf pc = .ok (.ireturn, 1) → W p l e { frames := 2, cells := 0, slots := 0, locals := 40 } s m args below meth c H locs 0 0 (QI below D [] (wX9_frameOf u0) (u0) args s A) (F0 m pc ls [.int v]) := fun u v H locs pc ls h1 h2 h3 h4 h5 h6 => rI (wf := wX9_frameOf) (rf := fun u => u) hx hb hr hlocks hK h1 h2 h3 h4 h5 h6
  have J20 : ∀ (s0 : Int32) (s1 : Int32) (s2 : Bool) (l0 : Int32) (H : Heap) (locs : List Loc) (ls : Array Slot), F_X9_frameOf_20  s0 s1 s2 l0 = some u0 → lv_has ls 1 [(0, .int l0)] → va_P D vwCl [] H → va_D A [] → va_S A s.heap H locs → W p l e { frames := 2, cells := 0, slots := 0, locals := 40 } s m args below meth c H locs 0 0 (QI below D [] (wX9_frameOf u0) (u0) args s A) (F0 m 20 ls [.int (bI s2), .int s1, .int s0]) := by
    intro s0 s1 s2 l0 H locs ls hF hl hP hD hS
    unfold F_X9_frameOf_20 at hF
    refine lv_iadd hx hb dX9_frameOf_20 ?_
    refine lv_imul hx hb dX9_frameOf_21 ?_
    refine lv_iload_n hx hb dX9_frameOf_22 rfl (lv_at hl 0 rfl) ?_
    obtain ⟨u1, hu1, hF⟩ := bd_el hF
    refine cSI (As := [.int l0]) (rest := [.int (s0 * (s1 + (bI s2)))]) (wr := []) (ws' := []) (rv := u1) ⟨hx, hb, hml, hown, hts⟩ (mX9_stopOf D l0 u1 hu1) (va_cwS 1 hts gX9_frameOf_X9_stopOf rfl rfl rfl (by decide +kernel) ⟨Nat.le_of_ble_eq_true rfl, Nat.le_of_ble_eq_true rfl⟩) hK hP hD hS hA [] [] [] [] rfl rfl rfl rfl rfl rfl hl.1 rfl (Nat.le_of_ble_eq_true rfl) rfl dX9_frameOf_23 ⟨Nat.le_refl _, Nat.le_refl _⟩ (fun H locs hP hD hS => ?_)
    refine lv_iadd hx hb dX9_frameOf_26 ?_
    exact hret ((s0 * (s1 + (bI s2))) + u1) ((s0 * (s1 + (bI s2))) + u1) _ _ 27 _ hP hD hS hF rfl dX9_frameOf_27
  unfold F_X9_frameOf at hF
  refine lv_bipush (v := 16) hx hb dX9_frameOf_0 (by decide) ?_
  refine lv_iconst (v := 1) hx hb dX9_frameOf_2 (by decide) ?_
  refine lv_iload_n hx hb dX9_frameOf_3 rfl (lv_at hl 0 rfl) ?_
  obtain ⟨u2, hu2, hF⟩ := bd_el hF
  refine cSI (As := [.int p1]) (rest := [.int 1, .int 16]) (wr := []) (ws' := []) (rv := u2) ⟨hx, hb, hml, hown, hts⟩ (mX9_bitsOf D p1 u2 hu2) (va_cwS 1 hts gX9_frameOf_X9_bitsOf rfl rfl rfl (by decide +kernel) ⟨Nat.le_of_ble_eq_true rfl, Nat.le_of_ble_eq_true rfl⟩) hK hP hD hS hA [] [] [] [] rfl rfl rfl rfl rfl rfl hl.1 rfl (Nat.le_of_ble_eq_true rfl) rfl dX9_frameOf_4 ⟨Nat.le_refl _, Nat.le_refl _⟩ (fun H locs hP hD hS => ?_)
  refine lv_iadd hx hb dX9_frameOf_7 ?_
  refine lv_iload_n hx hb dX9_frameOf_8 rfl (lv_at hl 0 rfl) ?_
  obtain ⟨u3, hu3, hF⟩ := bd_el hF
  refine cSI (As := [.int p1]) (rest := [.int (1 + u2), .int 16]) (wr := []) (ws' := []) (rv := bI u3) ⟨hx, hb, hml, hown, hts⟩ (mX9_hasParity D p1 u3 hu3) (va_cwS 1 hts gX9_frameOf_X9_hasParity rfl rfl rfl (by decide +kernel) ⟨Nat.le_of_ble_eq_true rfl, Nat.le_of_ble_eq_true rfl⟩) hK hP hD hS hA [] [] [] [] rfl rfl rfl rfl rfl rfl hl.1 rfl (Nat.le_of_ble_eq_true rfl) rfl dX9_frameOf_9 ⟨Nat.le_refl _, Nat.le_refl _⟩ (fun H locs hP hD hS => ?_)
  refine lv_if_eq (tgt := 19) hx hb dX9_frameOf_12 (by decide) (fun c4 => ?_) (fun c4 => ?_)
  · replace hF := bt_f (bI_0 c4) hF
    refine lv_iconst (v := 0) hx hb dX9_frameOf_19 (by decide) ?_
    exact J20 16 (1 + u2) false p1 _ _ _ hF hl hP hD hS
  · replace hF := bt_t (bI_n0 c4) hF
    refine lv_iconst (v := 1) hx hb dX9_frameOf_15 (by decide) ?_
    refine lv_goto (tgt := 20) hx hb dX9_frameOf_16 (by decide) ?_
    exact J20 16 (1 + u2) true p1 _ _ _ hF hl hP hD hS
def F_X9_partOf (p1 : Int32) (p2 : Int32) (p3 : Int32)  : Option (Bool) := bd (F_X9_bitsOf p1) (fun u1 => if p3 = 0 then (some false) else (if u1 < p3 then (if (u1 + 1) < p3 then (some true) else (bd (F_X9_hasParity p1) (fun u5 => bt u5 (bd (F_X9_parityOf p1 p2) (fun u7 => if u7 = 1 then (some true) else (some false))) (some true)))) else (if ((p2 >>> ((p3 - 1) &&& 31)) &&& 1) = 1 then (some true) else (some false))))
def wX9_partOf  (_u : Bool) : va_W := []
set_option maxHeartbeats 4000000 in
set_option maxRecDepth 100000 in
theorem mX9_partOf {l : Launch} (D : va_G) (p1 : Int32) (p2 : Int32) (p3 : Int32) (u0 : Bool) (hF : F_X9_partOf p1 p2 p3 = some u0) : MI l yX9_partOf wsX9_partOf { frames := 2, cells := 0, slots := 0, locals := 42 } D [] [.int p1, .int p2, .int p3] [] (wX9_partOf u0) (bI u0) := by
  refine MI.ofW (cc := cX9_partOf) (maxL := 4) (ret := (some .boolean)) (lv := [(0, .int p1), (1, .int p2), (2, .int p3)]) (by decide +kernel) rfl (Nat.le_of_ble_eq_true rfl) rfl ?_
  intro p e s m args below meth c A ls hx hb hr hml hts hown hlocks hA hK hP hD hS hl
  replace hown : s.vm.findClass RX9 = some m.cls := hown
  have hret : ∀ (u : Bool) (v : Int32) (H : Heap) (locs : List Loc) (pc : Nat) (ls : Array Slot), va_P D vwCl (wX9_partOf u) H → va_D A (wX9_partOf u) → va_S A s.heap H locs → some u = some u0 → v = bI u → decode cX9_partOf pc = .ok (.ireturn, 1) → W p l e { frames := 2, cells := 0, slots := 0, locals := 42 } s m args below meth c H locs 0 0 (QI below D [] (wX9_partOf u0) (bI u0) args s A) (F0 m pc ls [.int v]) := fun u v H locs pc ls h1 h2 h3 h4 h5 h6 => rZ (wf := wX9_partOf) (rf := fun u => u) hx hb hr hlocks hK h1 h2 h3 h4 h5 h6
  unfold F_X9_partOf at hF
  refine lv_iload_n hx hb dX9_partOf_0 rfl (lv_at hl 0 rfl) ?_
  obtain ⟨u1, hu1, hF⟩ := bd_el hF
  refine cSI (As := [.int p1]) (rest := []) (wr := []) (ws' := []) (rv := u1) ⟨hx, hb, hml, hown, hts⟩ (mX9_bitsOf D p1 u1 hu1) (va_cwS 1 hts gX9_partOf_X9_bitsOf rfl rfl rfl (by decide +kernel) ⟨Nat.le_of_ble_eq_true rfl, Nat.le_of_ble_eq_true rfl⟩) hK hP hD hS hA [] [] [] [] rfl rfl rfl rfl rfl rfl hl.1 rfl (Nat.le_of_ble_eq_true rfl) rfl dX9_partOf_1 ⟨Nat.le_refl _, Nat.le_refl _⟩ (fun H locs hP hD hS => ?_)
  refine lv_istore_n (lv' := [(3, .int u1), (0, .int p1), (1, .int p2), (2, .int p3)]) hx hb dX9_partOf_4 rfl hl (Nat.le_of_ble_eq_true rfl) rfl (fun ls hl => ?_)
  refine lv_iload_n hx hb dX9_partOf_5 rfl (lv_at hl 3 rfl) ?_
  refine lv_if_ne (tgt := 11) hx hb dX9_partOf_6 (by decide) (fun c2 => ?_) (fun c2 => ?_)
  · replace hF := it_f c2 hF
    refine lv_iload_n hx hb dX9_partOf_11 rfl (lv_at hl 3 rfl) ?_
    refine lv_iload_n hx hb dX9_partOf_12 rfl (lv_at hl 0 rfl) ?_
    refine lv_icmp_gt (tgt := 33) hx hb dX9_partOf_13 (by decide) (fun c3 => ?_) (fun c3 => ?_)
    · replace hF := it_t c3 hF
      refine lv_iload_n hx hb dX9_partOf_33 rfl (lv_at hl 3 rfl) ?_
      refine lv_iload_n hx hb dX9_partOf_34 rfl (lv_at hl 0 rfl) ?_
      refine lv_iconst (v := 1) hx hb dX9_partOf_35 (by decide) ?_
      refine lv_iadd hx hb dX9_partOf_36 ?_
      refine lv_icmp_gt (tgt := 56) hx hb dX9_partOf_37 (by decide) (fun c4 => ?_) (fun c4 => ?_)
      · replace hF := it_t c4 hF
        refine lv_iconst (v := 1) hx hb dX9_partOf_56 (by decide) ?_
        refine lv_goto (tgt := 61) hx hb dX9_partOf_57 (by decide) ?_
        exact hret true 1 _ _ 61 _ hP hD hS hF rfl dX9_partOf_61
      · replace hF := it_f c4 hF
        refine lv_iload_n hx hb dX9_partOf_40 rfl (lv_at hl 1 rfl) ?_
        obtain ⟨u5, hu5, hF⟩ := bd_el hF
        refine cSI (As := [.int p1]) (rest := []) (wr := []) (ws' := []) (rv := bI u5) ⟨hx, hb, hml, hown, hts⟩ (mX9_hasParity D p1 u5 hu5) (va_cwS 1 hts gX9_partOf_X9_hasParity rfl rfl rfl (by decide +kernel) ⟨Nat.le_of_ble_eq_true rfl, Nat.le_of_ble_eq_true rfl⟩) hK hP hD hS hA [] [] [] [] rfl rfl rfl rfl rfl rfl hl.1 rfl (Nat.le_of_ble_eq_true rfl) rfl dX9_partOf_41 ⟨Nat.le_refl _, Nat.le_refl _⟩ (fun H locs hP hD hS => ?_)
        refine lv_if_eq (tgt := 56) hx hb dX9_partOf_44 (by decide) (fun c6 => ?_) (fun c6 => ?_)
        · replace hF := bt_f (bI_0 c6) hF
          refine lv_iconst (v := 1) hx hb dX9_partOf_56 (by decide) ?_
          refine lv_goto (tgt := 61) hx hb dX9_partOf_57 (by decide) ?_
          exact hret true 1 _ _ 61 _ hP hD hS hF rfl dX9_partOf_61
        · replace hF := bt_t (bI_n0 c6) hF
          refine lv_iload_n hx hb dX9_partOf_47 rfl (lv_at hl 1 rfl) ?_
          refine lv_iload_n hx hb dX9_partOf_48 rfl (lv_at hl 2 rfl) ?_
          obtain ⟨u7, hu7, hF⟩ := bd_el hF
          refine cSI (As := [.int p1, .int p2]) (rest := []) (wr := []) (ws' := []) (rv := u7) ⟨hx, hb, hml, hown, hts⟩ (mX9_parityOf D p1 p2 u7 hu7) (va_cwS 2 hts gX9_partOf_X9_parityOf rfl rfl rfl (by decide +kernel) ⟨Nat.le_of_ble_eq_true rfl, Nat.le_of_ble_eq_true rfl⟩) hK hP hD hS hA [] [] [] [] rfl rfl rfl rfl rfl rfl hl.1 rfl (Nat.le_of_ble_eq_true rfl) rfl dX9_partOf_49 ⟨Nat.le_refl _, Nat.le_refl _⟩ (fun H locs hP hD hS => ?_)
          refine lv_iconst (v := 1) hx hb dX9_partOf_52 (by decide) ?_
          refine lv_icmp_ne (tgt := 60) hx hb dX9_partOf_53 (by decide) (fun c8 => ?_) (fun c8 => ?_)
          · replace hF := it_f c8 hF
            refine lv_iconst (v := 0) hx hb dX9_partOf_60 (by decide) ?_
            exact hret false 0 _ _ 61 _ hP hD hS hF rfl dX9_partOf_61
          · replace hF := it_t c8 hF
            refine lv_iconst (v := 1) hx hb dX9_partOf_56 (by decide) ?_
            refine lv_goto (tgt := 61) hx hb dX9_partOf_57 (by decide) ?_
            exact hret true 1 _ _ 61 _ hP hD hS hF rfl dX9_partOf_61
    · replace hF := it_f c3 hF
      refine lv_iload_n hx hb dX9_partOf_16 rfl (lv_at hl 2 rfl) ?_
      refine lv_iload_n hx hb dX9_partOf_17 rfl (lv_at hl 3 rfl) ?_
      refine lv_iconst (v := 1) hx hb dX9_partOf_18 (by decide) ?_
      refine lv_isub hx hb dX9_partOf_19 ?_
      refine lv_ishr hx hb dX9_partOf_20 ?_
      refine lv_iconst (v := 1) hx hb dX9_partOf_21 (by decide) ?_
      refine lv_iand hx hb dX9_partOf_22 ?_
      refine lv_iconst (v := 1) hx hb dX9_partOf_23 (by decide) ?_
      refine lv_icmp_ne (tgt := 31) hx hb dX9_partOf_24 (by decide) (fun c9 => ?_) (fun c9 => ?_)
      · replace hF := it_f c9 hF
        refine lv_iconst (v := 0) hx hb dX9_partOf_31 (by decide) ?_
        exact hret false 0 _ _ 32 _ hP hD hS hF rfl dX9_partOf_32
      · replace hF := it_t c9 hF
        refine lv_iconst (v := 1) hx hb dX9_partOf_27 (by decide) ?_
        refine lv_goto (tgt := 32) hx hb dX9_partOf_28 (by decide) ?_
        exact hret true 1 _ _ 32 _ hP hD hS hF rfl dX9_partOf_32
  · replace hF := it_t c2 hF
    refine lv_iconst (v := 0) hx hb dX9_partOf_9 (by decide) ?_
    exact hret false 0 _ _ 10 _ hP hD hS hF rfl dX9_partOf_10
def F_X9_lines  (v_outputs : Int32) (v_ins : Int32) : Option (Int32) := bd (F_X9_loops v_outputs) (fun u1 => bt u1 (some (((((v_outputs >>> ((1 : Int32) &&& 31)) &&& 1) + (2 * (v_outputs &&& 1))) + (v_outputs &&& 4)) + (v_outputs &&& 8))) (some v_ins))
def wX9_lines (h_ : Nat) (h_received : Nat) (h_marks : Nat) (h_sending : Nat) (h_waveHigh : Nat) (h_waveBeats : Nat) (h_runHigh : Nat) (h_runBeats : Nat) (v_divisor : Int32) (v_clocks : Int32) (v_wanted : Int32) (v_rowsOn : Bool) (v_level : Int32) (v_form : Int32) (v_outputs : Int32) (v_byteKept : Int32) (v_ins : Int32) (v_changed : Int32) (v_receivedMany : Int32) (v_overrun : Bool) (v_sendingMany : Int32) (v_emptyUp : Bool) (v_lateUp : Bool) (v_lateCount : Int32) (v_waveMany : Int32) (v_lineIn : Bool) (v_sends : Bool) (v_sentCharacter : Int32) (v_sentForm : Int32) (v_sentBeat : Int32) (v_senderHigh : Bool) (v_takes : Bool) (v_sawHigh : Bool) (v_takenForm : Int32) (v_takenBeat : Int32) (v_takenBits : Int32) (v_takenParity : Int32) (v_beats : Int32) (v_out : Bool) (v_runs : Int32) (v_thrown : Int32) (_u : Int32) : va_W := [oX9 h_ v_divisor v_clocks v_wanted v_rowsOn v_level v_form v_outputs v_byteKept v_ins v_changed h_received h_marks v_receivedMany v_overrun h_sending v_sendingMany v_emptyUp v_lateUp v_lateCount h_waveHigh h_waveBeats v_waveMany v_lineIn v_sends v_sentCharacter v_sentForm v_sentBeat v_senderHigh v_takes v_sawHigh v_takenForm v_takenBeat v_takenBits v_takenParity v_beats v_out h_runHigh h_runBeats v_runs v_thrown]
set_option maxHeartbeats 4000000 in
set_option maxRecDepth 100000 in
theorem mX9_lines {l : Launch} (D : va_G) (h_ : Nat) (h_received : Nat) (h_marks : Nat) (h_sending : Nat) (h_waveHigh : Nat) (h_waveBeats : Nat) (h_runHigh : Nat) (h_runBeats : Nat) (v_divisor : Int32) (v_clocks : Int32) (v_wanted : Int32) (v_rowsOn : Bool) (v_level : Int32) (v_form : Int32) (v_outputs : Int32) (v_byteKept : Int32) (v_ins : Int32) (v_changed : Int32) (v_receivedMany : Int32) (v_overrun : Bool) (v_sendingMany : Int32) (v_emptyUp : Bool) (v_lateUp : Bool) (v_lateCount : Int32) (v_waveMany : Int32) (v_lineIn : Bool) (v_sends : Bool) (v_sentCharacter : Int32) (v_sentForm : Int32) (v_sentBeat : Int32) (v_senderHigh : Bool) (v_takes : Bool) (v_sawHigh : Bool) (v_takenForm : Int32) (v_takenBeat : Int32) (v_takenBits : Int32) (v_takenParity : Int32) (v_beats : Int32) (v_out : Bool) (v_runs : Int32) (v_thrown : Int32) (u0 : Int32) (hF : F_X9_lines v_outputs v_ins = some u0) : MI l yX9_lines wsX9_lines { frames := 1, cells := 0, slots := 0, locals := 20 } D [] [.ref h_] [oX9 h_ v_divisor v_clocks v_wanted v_rowsOn v_level v_form v_outputs v_byteKept v_ins v_changed h_received h_marks v_receivedMany v_overrun h_sending v_sendingMany v_emptyUp v_lateUp v_lateCount h_waveHigh h_waveBeats v_waveMany v_lineIn v_sends v_sentCharacter v_sentForm v_sentBeat v_senderHigh v_takes v_sawHigh v_takenForm v_takenBeat v_takenBits v_takenParity v_beats v_out h_runHigh h_runBeats v_runs v_thrown] (wX9_lines h_ h_received h_marks h_sending h_waveHigh h_waveBeats h_runHigh h_runBeats v_divisor v_clocks v_wanted v_rowsOn v_level v_form v_outputs v_byteKept v_ins v_changed v_receivedMany v_overrun v_sendingMany v_emptyUp v_lateUp v_lateCount v_waveMany v_lineIn v_sends v_sentCharacter v_sentForm v_sentBeat v_senderHigh v_takes v_sawHigh v_takenForm v_takenBeat v_takenBits v_takenParity v_beats v_out v_runs v_thrown u0) (u0) := by
  refine MI.ofW (cc := cX9_lines) (maxL := 1) (ret := (some .int)) (lv := [(0, .ref h_)]) (by decide +kernel) rfl (Nat.le_of_ble_eq_true rfl) rfl ?_
  intro p e s m args below meth c A ls hx hb hr hml hts hown hlocks hA hK hP hD hS hl
  replace hown : s.vm.findClass RX9 = some m.cls := hown
  have i_X9 : ∀ w ∈ wsX90, w ∈ wsX9_lines := by decide +kernel
  have f_58 := hts (.fieldLink RX9 58 "SerialPortModel" "outputs" "I") (by decide +kernel)
  have f_64 := hts (.fieldLink RX9 64 "SerialPortModel" "ins" "I") (by decide +kernel)
  have hret : ∀ (u : Int32) (v : Int32) (H : Heap) (locs : List Loc) (pc : Nat) (ls : Array Slot), va_P D vwCl (wX9_lines h_ h_received h_marks h_sending h_waveHigh h_waveBeats h_runHigh h_runBeats v_divisor v_clocks v_wanted v_rowsOn v_level v_form v_outputs v_byteKept v_ins v_changed v_receivedMany v_overrun v_sendingMany v_emptyUp v_lateUp v_lateCount v_waveMany v_lineIn v_sends v_sentCharacter v_sentForm v_sentBeat v_senderHigh v_takes v_sawHigh v_takenForm v_takenBeat v_takenBits v_takenParity v_beats v_out v_runs v_thrown u) H → va_D A (wX9_lines h_ h_received h_marks h_sending h_waveHigh h_waveBeats h_runHigh h_runBeats v_divisor v_clocks v_wanted v_rowsOn v_level v_form v_outputs v_byteKept v_ins v_changed v_receivedMany v_overrun v_sendingMany v_emptyUp v_lateUp v_lateCount v_waveMany v_lineIn v_sends v_sentCharacter v_sentForm v_sentBeat v_senderHigh v_takes v_sawHigh v_takenForm v_takenBeat v_takenBits v_takenParity v_beats v_out v_runs v_thrown u) → va_S A s.heap H locs → some u = some u0 → v = u → decode cX9_lines pc = .ok (.ireturn, 1) → W p l e { frames := 1, cells := 0, slots := 0, locals := 20 } s m args below meth c H locs 0 0 (QI below D [] (wX9_lines h_ h_received h_marks h_sending h_waveHigh h_waveBeats h_runHigh h_runBeats v_divisor v_clocks v_wanted v_rowsOn v_level v_form v_outputs v_byteKept v_ins v_changed v_receivedMany v_overrun v_sendingMany v_emptyUp v_lateUp v_lateCount v_waveMany v_lineIn v_sends v_sentCharacter v_sentForm v_sentBeat v_senderHigh v_takes v_sawHigh v_takenForm v_takenBeat v_takenBits v_takenParity v_beats v_out v_runs v_thrown u0) (u0) args s A) (F0 m pc ls [.int v]) := fun u v H locs pc ls h1 h2 h3 h4 h5 h6 => rI (wf := wX9_lines h_ h_received h_marks h_sending h_waveHigh h_waveBeats h_runHigh h_runBeats v_divisor v_clocks v_wanted v_rowsOn v_level v_form v_outputs v_byteKept v_ins v_changed v_receivedMany v_overrun v_sendingMany v_emptyUp v_lateUp v_lateCount v_waveMany v_lineIn v_sends v_sentCharacter v_sentForm v_sentBeat v_senderHigh v_takes v_sawHigh v_takenForm v_takenBeat v_takenBits v_takenParity v_beats v_out v_runs v_thrown) (rf := fun u => u) hx hb hr hlocks hK h1 h2 h3 h4 h5 h6
  unfold F_X9_lines at hF
  refine lv_aload_n hx hb dX9_lines_0 rfl (lv_at hl 0 rfl) ?_
  obtain ⟨u1, hu1, hF⟩ := bd_el hF
  refine cVI (q0 := 0) (ci := 8) (As := []) (rest := []) (wr := []) (ws' := [oX9 h_ v_divisor v_clocks v_wanted v_rowsOn v_level v_form v_outputs v_byteKept v_ins v_changed h_received h_marks v_receivedMany v_overrun h_sending v_sendingMany v_emptyUp v_lateUp v_lateCount h_waveHigh h_waveBeats v_waveMany v_lineIn v_sends v_sentCharacter v_sentForm v_sentBeat v_senderHigh v_takes v_sawHigh v_takenForm v_takenBeat v_takenBits v_takenParity v_beats v_out h_runHigh h_runBeats v_runs v_thrown]) (rv := bI u1) ⟨hx, hb, hml, hown, hts⟩ (mX9_loops D h_ h_received h_marks h_sending h_waveHigh h_waveBeats h_runHigh h_runBeats v_divisor v_clocks v_wanted v_rowsOn v_level v_form v_outputs v_byteKept v_ins v_changed v_receivedMany v_overrun v_sendingMany v_emptyUp v_lateUp v_lateCount v_waveMany v_lineIn v_sends v_sentCharacter v_sentForm v_sentBeat v_senderHigh v_takes v_sawHigh v_takenForm v_takenBeat v_takenBits v_takenParity v_beats v_out v_runs v_thrown u1 hu1) (cwV 0 hts gX9_lines_X9_loops rfl rfl rfl (by decide +kernel) ⟨Nat.le_of_ble_eq_true rfl, Nat.le_of_ble_eq_true rfl⟩) hK hP hD hS hA [] [0] [] [0] rfl rfl rfl rfl rfl rfl rfl rfl rfl hl.1 rfl (Nat.le_of_ble_eq_true rfl) rfl dX9_lines_1 ⟨Nat.le_refl _, Nat.le_refl _⟩ (fun H locs hP hD hS => ?_)
  refine lv_if_ne (tgt := 12) hx hb dX9_lines_4 (by decide) (fun c2 => ?_) (fun c2 => ?_)
  · replace hF := bt_t (bI_n0 c2) hF
    refine lv_aload_n hx hb dX9_lines_12 rfl (lv_at hl 0 rfl) ?_
    refine va_get (D := D) (ci := 8) (v := .int v_outputs) (C := RX9) (T := TX9) (N := 40) hx hb hts i_X9 hown hK hP 0 rfl rfl 6 (Nat.le_of_ble_eq_true rfl) f_58 (fun _ h9 => h9) rfl dX9_lines_13 ?_
    refine lv_iconst (v := 1) hx hb dX9_lines_16 (by decide) ?_
    refine lv_ishr hx hb dX9_lines_17 ?_
    refine lv_iconst (v := 1) hx hb dX9_lines_18 (by decide) ?_
    refine lv_iand hx hb dX9_lines_19 ?_
    refine lv_iconst (v := 2) hx hb dX9_lines_20 (by decide) ?_
    refine lv_aload_n hx hb dX9_lines_21 rfl (lv_at hl 0 rfl) ?_
    refine va_get (D := D) (ci := 8) (v := .int v_outputs) (C := RX9) (T := TX9) (N := 40) hx hb hts i_X9 hown hK hP 0 rfl rfl 6 (Nat.le_of_ble_eq_true rfl) f_58 (fun _ h9 => h9) rfl dX9_lines_22 ?_
    refine lv_iconst (v := 1) hx hb dX9_lines_25 (by decide) ?_
    refine lv_iand hx hb dX9_lines_26 ?_
    refine lv_imul hx hb dX9_lines_27 ?_
    refine lv_iadd hx hb dX9_lines_28 ?_
    refine lv_aload_n hx hb dX9_lines_29 rfl (lv_at hl 0 rfl) ?_
    refine va_get (D := D) (ci := 8) (v := .int v_outputs) (C := RX9) (T := TX9) (N := 40) hx hb hts i_X9 hown hK hP 0 rfl rfl 6 (Nat.le_of_ble_eq_true rfl) f_58 (fun _ h9 => h9) rfl dX9_lines_30 ?_
    refine lv_iconst (v := 4) hx hb dX9_lines_33 (by decide) ?_
    refine lv_iand hx hb dX9_lines_34 ?_
    refine lv_iadd hx hb dX9_lines_35 ?_
    refine lv_aload_n hx hb dX9_lines_36 rfl (lv_at hl 0 rfl) ?_
    refine va_get (D := D) (ci := 8) (v := .int v_outputs) (C := RX9) (T := TX9) (N := 40) hx hb hts i_X9 hown hK hP 0 rfl rfl 6 (Nat.le_of_ble_eq_true rfl) f_58 (fun _ h9 => h9) rfl dX9_lines_37 ?_
    refine lv_bipush (v := 8) hx hb dX9_lines_40 (by decide) ?_
    refine lv_iand hx hb dX9_lines_42 ?_
    refine lv_iadd hx hb dX9_lines_43 ?_
    exact hret (((((v_outputs >>> ((1 : Int32) &&& 31)) &&& 1) + (2 * (v_outputs &&& 1))) + (v_outputs &&& 4)) + (v_outputs &&& 8)) (((((v_outputs >>> ((1 : Int32) &&& 31)) &&& 1) + (2 * (v_outputs &&& 1))) + (v_outputs &&& 4)) + (v_outputs &&& 8)) _ _ 44 _ hP hD hS hF rfl dX9_lines_44
  · replace hF := bt_f (bI_0 c2) hF
    refine lv_aload_n hx hb dX9_lines_7 rfl (lv_at hl 0 rfl) ?_
    refine va_get (D := D) (ci := 8) (v := .int v_ins) (C := RX9) (T := TX9) (N := 40) hx hb hts i_X9 hown hK hP 0 rfl rfl 8 (Nat.le_of_ble_eq_true rfl) f_64 (fun _ h9 => h9) rfl dX9_lines_8 ?_
    exact hret v_ins v_ins _ _ 11 _ hP hD hS hF rfl dX9_lines_11
def F_X9_notice (p1 : Int32) (v_outputs : Int32) (v_ins : Int32) (v_changed : Int32) : Option (Int32) := bd (F_X9_lines v_outputs v_ins) (fun u1 => lt1 (p1 ^^^ u1) (fun x2 => lt1 (v_changed ||| (x2 &&& 11)) (fun x3 => if (p1 &&& 4) = 0 then (some x3) else (if (u1 &&& 4) = 0 then (lt1 (x3 ||| 4) (fun x6 => some x6)) else (some x3)))))
def wX9_notice (h_ : Nat) (h_received : Nat) (h_marks : Nat) (h_sending : Nat) (h_waveHigh : Nat) (h_waveBeats : Nat) (h_runHigh : Nat) (h_runBeats : Nat) (v_divisor : Int32) (v_clocks : Int32) (v_wanted : Int32) (v_rowsOn : Bool) (v_level : Int32) (v_form : Int32) (v_outputs : Int32) (v_byteKept : Int32) (v_ins : Int32) (v_receivedMany : Int32) (v_overrun : Bool) (v_sendingMany : Int32) (v_emptyUp : Bool) (v_lateUp : Bool) (v_lateCount : Int32) (v_waveMany : Int32) (v_lineIn : Bool) (v_sends : Bool) (v_sentCharacter : Int32) (v_sentForm : Int32) (v_sentBeat : Int32) (v_senderHigh : Bool) (v_takes : Bool) (v_sawHigh : Bool) (v_takenForm : Int32) (v_takenBeat : Int32) (v_takenBits : Int32) (v_takenParity : Int32) (v_beats : Int32) (v_out : Bool) (v_runs : Int32) (v_thrown : Int32) (u : Int32) : va_W := [oX9 h_ v_divisor v_clocks v_wanted v_rowsOn v_level v_form v_outputs v_byteKept v_ins u h_received h_marks v_receivedMany v_overrun h_sending v_sendingMany v_emptyUp v_lateUp v_lateCount h_waveHigh h_waveBeats v_waveMany v_lineIn v_sends v_sentCharacter v_sentForm v_sentBeat v_senderHigh v_takes v_sawHigh v_takenForm v_takenBeat v_takenBits v_takenParity v_beats v_out h_runHigh h_runBeats v_runs v_thrown]
set_option maxHeartbeats 4000000 in
set_option maxRecDepth 100000 in
theorem mX9_notice {l : Launch} (D : va_G) (h_ : Nat) (h_received : Nat) (h_marks : Nat) (h_sending : Nat) (h_waveHigh : Nat) (h_waveBeats : Nat) (h_runHigh : Nat) (h_runBeats : Nat) (v_divisor : Int32) (v_clocks : Int32) (v_wanted : Int32) (v_rowsOn : Bool) (v_level : Int32) (v_form : Int32) (v_outputs : Int32) (v_byteKept : Int32) (v_ins : Int32) (v_changed : Int32) (v_receivedMany : Int32) (v_overrun : Bool) (v_sendingMany : Int32) (v_emptyUp : Bool) (v_lateUp : Bool) (v_lateCount : Int32) (v_waveMany : Int32) (v_lineIn : Bool) (v_sends : Bool) (v_sentCharacter : Int32) (v_sentForm : Int32) (v_sentBeat : Int32) (v_senderHigh : Bool) (v_takes : Bool) (v_sawHigh : Bool) (v_takenForm : Int32) (v_takenBeat : Int32) (v_takenBits : Int32) (v_takenParity : Int32) (v_beats : Int32) (v_out : Bool) (v_runs : Int32) (v_thrown : Int32) (p1 : Int32) (u0 : Int32) (hF : F_X9_notice p1 v_outputs v_ins v_changed = some u0) : MV l yX9_notice wsX9_notice { frames := 2, cells := 0, slots := 0, locals := 40 } D [] [.ref h_, .int p1] [oX9 h_ v_divisor v_clocks v_wanted v_rowsOn v_level v_form v_outputs v_byteKept v_ins v_changed h_received h_marks v_receivedMany v_overrun h_sending v_sendingMany v_emptyUp v_lateUp v_lateCount h_waveHigh h_waveBeats v_waveMany v_lineIn v_sends v_sentCharacter v_sentForm v_sentBeat v_senderHigh v_takes v_sawHigh v_takenForm v_takenBeat v_takenBits v_takenParity v_beats v_out h_runHigh h_runBeats v_runs v_thrown] (wX9_notice h_ h_received h_marks h_sending h_waveHigh h_waveBeats h_runHigh h_runBeats v_divisor v_clocks v_wanted v_rowsOn v_level v_form v_outputs v_byteKept v_ins v_receivedMany v_overrun v_sendingMany v_emptyUp v_lateUp v_lateCount v_waveMany v_lineIn v_sends v_sentCharacter v_sentForm v_sentBeat v_senderHigh v_takes v_sawHigh v_takenForm v_takenBeat v_takenBits v_takenParity v_beats v_out v_runs v_thrown u0) := by
  refine MV.ofW (cc := cX9_notice) (maxL := 4) (ret := none) (lv := [(0, .ref h_), (1, .int p1)]) (by decide +kernel) rfl (Nat.le_of_ble_eq_true rfl) rfl ?_
  intro p e s m args below meth c A ls hx hb hr hml hts hown hlocks hA hK hP hD hS hl
  replace hown : s.vm.findClass RX9 = some m.cls := hown
  have i_X9 : ∀ w ∈ wsX90, w ∈ wsX9_notice := by decide +kernel
  have f_67 := hts (.fieldLink RX9 67 "SerialPortModel" "changed" "I") (by decide +kernel)
  have hret : ∀ (u : Int32) (H : Heap) (locs : List Loc) (pc : Nat) (ls : Array Slot), va_P D vwCl (wX9_notice h_ h_received h_marks h_sending h_waveHigh h_waveBeats h_runHigh h_runBeats v_divisor v_clocks v_wanted v_rowsOn v_level v_form v_outputs v_byteKept v_ins v_receivedMany v_overrun v_sendingMany v_emptyUp v_lateUp v_lateCount v_waveMany v_lineIn v_sends v_sentCharacter v_sentForm v_sentBeat v_senderHigh v_takes v_sawHigh v_takenForm v_takenBeat v_takenBits v_takenParity v_beats v_out v_runs v_thrown u) H → va_D A (wX9_notice h_ h_received h_marks h_sending h_waveHigh h_waveBeats h_runHigh h_runBeats v_divisor v_clocks v_wanted v_rowsOn v_level v_form v_outputs v_byteKept v_ins v_receivedMany v_overrun v_sendingMany v_emptyUp v_lateUp v_lateCount v_waveMany v_lineIn v_sends v_sentCharacter v_sentForm v_sentBeat v_senderHigh v_takes v_sawHigh v_takenForm v_takenBeat v_takenBits v_takenParity v_beats v_out v_runs v_thrown u) → va_S A s.heap H locs → some u = some u0 → decode cX9_notice pc = .ok (.return_, 1) → W p l e { frames := 2, cells := 0, slots := 0, locals := 40 } s m args below meth c H locs 0 0 (QV below D [] (wX9_notice h_ h_received h_marks h_sending h_waveHigh h_waveBeats h_runHigh h_runBeats v_divisor v_clocks v_wanted v_rowsOn v_level v_form v_outputs v_byteKept v_ins v_receivedMany v_overrun v_sendingMany v_emptyUp v_lateUp v_lateCount v_waveMany v_lineIn v_sends v_sentCharacter v_sentForm v_sentBeat v_senderHigh v_takes v_sawHigh v_takenForm v_takenBeat v_takenBits v_takenParity v_beats v_out v_runs v_thrown u0) args s A) (F0 m pc ls []) := fun u H locs pc ls h1 h2 h3 h4 h5 => rV (wf := wX9_notice h_ h_received h_marks h_sending h_waveHigh h_waveBeats h_runHigh h_runBeats v_divisor v_clocks v_wanted v_rowsOn v_level v_form v_outputs v_byteKept v_ins v_receivedMany v_overrun v_sendingMany v_emptyUp v_lateUp v_lateCount v_waveMany v_lineIn v_sends v_sentCharacter v_sentForm v_sentBeat v_senderHigh v_takes v_sawHigh v_takenForm v_takenBeat v_takenBits v_takenParity v_beats v_out v_runs v_thrown) hx hb hr hlocks hK h1 h2 h3 h4 h5
  unfold F_X9_notice at hF
  refine lv_aload_n hx hb dX9_notice_0 rfl (lv_at hl 0 rfl) ?_
  obtain ⟨u1, hu1, hF⟩ := bd_el hF
  refine cVI (q0 := 0) (ci := 8) (As := []) (rest := []) (wr := []) (ws' := [oX9 h_ v_divisor v_clocks v_wanted v_rowsOn v_level v_form v_outputs v_byteKept v_ins v_changed h_received h_marks v_receivedMany v_overrun h_sending v_sendingMany v_emptyUp v_lateUp v_lateCount h_waveHigh h_waveBeats v_waveMany v_lineIn v_sends v_sentCharacter v_sentForm v_sentBeat v_senderHigh v_takes v_sawHigh v_takenForm v_takenBeat v_takenBits v_takenParity v_beats v_out h_runHigh h_runBeats v_runs v_thrown]) (rv := u1) ⟨hx, hb, hml, hown, hts⟩ (mX9_lines D h_ h_received h_marks h_sending h_waveHigh h_waveBeats h_runHigh h_runBeats v_divisor v_clocks v_wanted v_rowsOn v_level v_form v_outputs v_byteKept v_ins v_changed v_receivedMany v_overrun v_sendingMany v_emptyUp v_lateUp v_lateCount v_waveMany v_lineIn v_sends v_sentCharacter v_sentForm v_sentBeat v_senderHigh v_takes v_sawHigh v_takenForm v_takenBeat v_takenBits v_takenParity v_beats v_out v_runs v_thrown u1 hu1) (cwV 0 hts gX9_notice_X9_lines rfl rfl rfl (by decide +kernel) ⟨Nat.le_of_ble_eq_true rfl, Nat.le_of_ble_eq_true rfl⟩) hK hP hD hS hA [] [0] [] [0] rfl rfl rfl rfl rfl rfl rfl rfl rfl hl.1 rfl (Nat.le_of_ble_eq_true rfl) rfl dX9_notice_1 ⟨Nat.le_refl _, Nat.le_refl _⟩ (fun H locs hP hD hS => ?_)
  refine lv_istore_n (lv' := [(2, .int u1), (0, .ref h_), (1, .int p1)]) hx hb dX9_notice_4 rfl hl (Nat.le_of_ble_eq_true rfl) rfl (fun ls hl => ?_)
  refine lv_iload_n hx hb dX9_notice_5 rfl (lv_at hl 2 rfl) ?_
  refine lv_iload_n hx hb dX9_notice_6 rfl (lv_at hl 0 rfl) ?_
  refine lv_ixor hx hb dX9_notice_7 ?_
  refine lv_topi (fun x2 ex2 => ?_)
  replace hF := lt1_x ex2 hF
  refine lv_istore_n (lv' := [(3, .int x2), (2, .int u1), (0, .ref h_), (1, .int p1)]) hx hb dX9_notice_8 rfl hl (Nat.le_of_ble_eq_true rfl) rfl (fun ls hl => ?_)
  refine lv_aload_n hx hb dX9_notice_9 rfl (lv_at hl 2 rfl) ?_
  refine lv_dup hx hb dX9_notice_10 rfl ?_
  refine va_get (D := D) (ci := 8) (v := .int v_changed) (C := RX9) (T := TX9) (N := 40) hx hb hts i_X9 hown hK hP 0 rfl rfl 9 (Nat.le_of_ble_eq_true rfl) f_67 (fun _ h9 => h9) rfl dX9_notice_11 ?_
  refine lv_iload_n hx hb dX9_notice_14 rfl (lv_at hl 0 rfl) ?_
  refine lv_bipush (v := 11) hx hb dX9_notice_15 (by decide) ?_
  refine lv_iand hx hb dX9_notice_17 ?_
  refine lv_ior hx hb dX9_notice_18 ?_
  refine lv_topi (fun x3 ex3 => ?_)
  replace hF := lt1_x ex3 hF
  refine pf (ci := 8) (v := .int x3) (ty := .int) (C := RX9) (T := TX9) (N := 40) (ws' := [oX9 h_ v_divisor v_clocks v_wanted v_rowsOn v_level v_form v_outputs v_byteKept v_ins x3 h_received h_marks v_receivedMany v_overrun h_sending v_sendingMany v_emptyUp v_lateUp v_lateCount h_waveHigh h_waveBeats v_waveMany v_lineIn v_sends v_sentCharacter v_sentForm v_sentBeat v_senderHigh v_takes v_sawHigh v_takenForm v_takenBeat v_takenBits v_takenParity v_beats v_out h_runHigh h_runBeats v_runs v_thrown]) hx hb hts i_X9 tyX9_ok nmX9 hown hK hP hD hS 0 rfl rfl 9 (Nat.le_of_ble_eq_true rfl) f_67 rfl rfl (by decide +kernel) rfl rfl (Nat.le_of_ble_eq_true rfl) rfl dX9_notice_19 (fun H locs hP hD hS => ?_)
  refine lv_iload_n hx hb dX9_notice_22 rfl (lv_at hl 3 rfl) ?_
  refine lv_iconst (v := 4) hx hb dX9_notice_23 (by decide) ?_
  refine lv_iand hx hb dX9_notice_24 ?_
  refine lv_if_eq (tgt := 44) hx hb dX9_notice_25 (by decide) (fun c4 => ?_) (fun c4 => ?_)
  · replace hF := it_t c4 hF
    exact hret x3 _ _ 44 _ hP hD hS hF dX9_notice_44
  · replace hF := it_f c4 hF
    refine lv_iload_n hx hb dX9_notice_28 rfl (lv_at hl 1 rfl) ?_
    refine lv_iconst (v := 4) hx hb dX9_notice_29 (by decide) ?_
    refine lv_iand hx hb dX9_notice_30 ?_
    refine lv_if_ne (tgt := 44) hx hb dX9_notice_31 (by decide) (fun c5 => ?_) (fun c5 => ?_)
    · replace hF := it_f c5 hF
      exact hret x3 _ _ 44 _ hP hD hS hF dX9_notice_44
    · replace hF := it_t c5 hF
      refine lv_aload_n hx hb dX9_notice_34 rfl (lv_at hl 2 rfl) ?_
      refine lv_dup hx hb dX9_notice_35 rfl ?_
      refine va_get (D := D) (ci := 8) (v := .int x3) (C := RX9) (T := TX9) (N := 40) hx hb hts i_X9 hown hK hP 0 rfl rfl 9 (Nat.le_of_ble_eq_true rfl) f_67 (fun _ h9 => h9) rfl dX9_notice_36 ?_
      refine lv_iconst (v := 4) hx hb dX9_notice_39 (by decide) ?_
      refine lv_ior hx hb dX9_notice_40 ?_
      refine lv_topi (fun x6 ex6 => ?_)
      replace hF := lt1_x ex6 hF
      refine pf (ci := 8) (v := .int x6) (ty := .int) (C := RX9) (T := TX9) (N := 40) (ws' := [oX9 h_ v_divisor v_clocks v_wanted v_rowsOn v_level v_form v_outputs v_byteKept v_ins x6 h_received h_marks v_receivedMany v_overrun h_sending v_sendingMany v_emptyUp v_lateUp v_lateCount h_waveHigh h_waveBeats v_waveMany v_lineIn v_sends v_sentCharacter v_sentForm v_sentBeat v_senderHigh v_takes v_sawHigh v_takenForm v_takenBeat v_takenBits v_takenParity v_beats v_out h_runHigh h_runBeats v_runs v_thrown]) hx hb hts i_X9 tyX9_ok nmX9 hown hK hP hD hS 0 rfl rfl 9 (Nat.le_of_ble_eq_true rfl) f_67 rfl rfl (by decide +kernel) rfl rfl (Nat.le_of_ble_eq_true rfl) rfl dX9_notice_41 (fun H locs hP hD hS => ?_)
      exact hret x6 _ _ 44 _ hP hD hS hF dX9_notice_44
def F_X9_inputs (p1 : Int32) (v_outputs : Int32) (v_ins : Int32) (v_changed : Int32) (v_thrown : Int32) : Option (Bool × Int32 × Int32 × Int32) := if p1 < 0 then (some (false, v_ins, v_changed, 0)) else (if p1 ≤ 15 then (bd (F_X9_lines v_outputs v_ins) (fun u3 => bd (F_X9_notice u3 v_outputs p1 v_changed) (fun u4 => some (true, p1, u4, 0)))) else (some (false, v_ins, v_changed, 0)))
def wX9_inputs (h_ : Nat) (h_received : Nat) (h_marks : Nat) (h_sending : Nat) (h_waveHigh : Nat) (h_waveBeats : Nat) (h_runHigh : Nat) (h_runBeats : Nat) (v_divisor : Int32) (v_clocks : Int32) (v_wanted : Int32) (v_rowsOn : Bool) (v_level : Int32) (v_form : Int32) (v_outputs : Int32) (v_byteKept : Int32) (v_receivedMany : Int32) (v_overrun : Bool) (v_sendingMany : Int32) (v_emptyUp : Bool) (v_lateUp : Bool) (v_lateCount : Int32) (v_waveMany : Int32) (v_lineIn : Bool) (v_sends : Bool) (v_sentCharacter : Int32) (v_sentForm : Int32) (v_sentBeat : Int32) (v_senderHigh : Bool) (v_takes : Bool) (v_sawHigh : Bool) (v_takenForm : Int32) (v_takenBeat : Int32) (v_takenBits : Int32) (v_takenParity : Int32) (v_beats : Int32) (v_out : Bool) (v_runs : Int32) (u : Bool × Int32 × Int32 × Int32) : va_W := [oX9 h_ v_divisor v_clocks v_wanted v_rowsOn v_level v_form v_outputs v_byteKept u.2.1 u.2.2.1 h_received h_marks v_receivedMany v_overrun h_sending v_sendingMany v_emptyUp v_lateUp v_lateCount h_waveHigh h_waveBeats v_waveMany v_lineIn v_sends v_sentCharacter v_sentForm v_sentBeat v_senderHigh v_takes v_sawHigh v_takenForm v_takenBeat v_takenBits v_takenParity v_beats v_out h_runHigh h_runBeats v_runs u.2.2.2]
set_option maxHeartbeats 4000000 in
set_option maxRecDepth 100000 in
theorem mX9_inputs {l : Launch} (D : va_G) (h_ : Nat) (h_received : Nat) (h_marks : Nat) (h_sending : Nat) (h_waveHigh : Nat) (h_waveBeats : Nat) (h_runHigh : Nat) (h_runBeats : Nat) (v_divisor : Int32) (v_clocks : Int32) (v_wanted : Int32) (v_rowsOn : Bool) (v_level : Int32) (v_form : Int32) (v_outputs : Int32) (v_byteKept : Int32) (v_ins : Int32) (v_changed : Int32) (v_receivedMany : Int32) (v_overrun : Bool) (v_sendingMany : Int32) (v_emptyUp : Bool) (v_lateUp : Bool) (v_lateCount : Int32) (v_waveMany : Int32) (v_lineIn : Bool) (v_sends : Bool) (v_sentCharacter : Int32) (v_sentForm : Int32) (v_sentBeat : Int32) (v_senderHigh : Bool) (v_takes : Bool) (v_sawHigh : Bool) (v_takenForm : Int32) (v_takenBeat : Int32) (v_takenBits : Int32) (v_takenParity : Int32) (v_beats : Int32) (v_out : Bool) (v_runs : Int32) (v_thrown : Int32) (p1 : Int32) (u0 : Bool × Int32 × Int32 × Int32) (hF : F_X9_inputs p1 v_outputs v_ins v_changed v_thrown = some u0) : MI l yX9_inputs wsX9_inputs { frames := 3, cells := 0, slots := 0, locals := 63 } D [] [.ref h_, .int p1] [oX9 h_ v_divisor v_clocks v_wanted v_rowsOn v_level v_form v_outputs v_byteKept v_ins v_changed h_received h_marks v_receivedMany v_overrun h_sending v_sendingMany v_emptyUp v_lateUp v_lateCount h_waveHigh h_waveBeats v_waveMany v_lineIn v_sends v_sentCharacter v_sentForm v_sentBeat v_senderHigh v_takes v_sawHigh v_takenForm v_takenBeat v_takenBits v_takenParity v_beats v_out h_runHigh h_runBeats v_runs v_thrown] (wX9_inputs h_ h_received h_marks h_sending h_waveHigh h_waveBeats h_runHigh h_runBeats v_divisor v_clocks v_wanted v_rowsOn v_level v_form v_outputs v_byteKept v_receivedMany v_overrun v_sendingMany v_emptyUp v_lateUp v_lateCount v_waveMany v_lineIn v_sends v_sentCharacter v_sentForm v_sentBeat v_senderHigh v_takes v_sawHigh v_takenForm v_takenBeat v_takenBits v_takenParity v_beats v_out v_runs u0) (bI u0.1) := by
  refine MI.ofW (cc := cX9_inputs) (maxL := 3) (ret := (some .boolean)) (lv := [(0, .ref h_), (1, .int p1)]) (by decide +kernel) rfl (Nat.le_of_ble_eq_true rfl) rfl ?_
  intro p e s m args below meth c A ls hx hb hr hml hts hown hlocks hA hK hP hD hS hl
  replace hown : s.vm.findClass RX9 = some m.cls := hown
  have i_X9 : ∀ w ∈ wsX90, w ∈ wsX9_inputs := by decide +kernel
  have f_35 := hts (.fieldLink RX9 35 "SerialPortModel" "thrown" "I") (by decide +kernel)
  have f_64 := hts (.fieldLink RX9 64 "SerialPortModel" "ins" "I") (by decide +kernel)
  have hret : ∀ (u : Bool × Int32 × Int32 × Int32) (v : Int32) (H : Heap) (locs : List Loc) (pc : Nat) (ls : Array Slot), va_P D vwCl (wX9_inputs h_ h_received h_marks h_sending h_waveHigh h_waveBeats h_runHigh h_runBeats v_divisor v_clocks v_wanted v_rowsOn v_level v_form v_outputs v_byteKept v_receivedMany v_overrun v_sendingMany v_emptyUp v_lateUp v_lateCount v_waveMany v_lineIn v_sends v_sentCharacter v_sentForm v_sentBeat v_senderHigh v_takes v_sawHigh v_takenForm v_takenBeat v_takenBits v_takenParity v_beats v_out v_runs u) H → va_D A (wX9_inputs h_ h_received h_marks h_sending h_waveHigh h_waveBeats h_runHigh h_runBeats v_divisor v_clocks v_wanted v_rowsOn v_level v_form v_outputs v_byteKept v_receivedMany v_overrun v_sendingMany v_emptyUp v_lateUp v_lateCount v_waveMany v_lineIn v_sends v_sentCharacter v_sentForm v_sentBeat v_senderHigh v_takes v_sawHigh v_takenForm v_takenBeat v_takenBits v_takenParity v_beats v_out v_runs u) → va_S A s.heap H locs → some u = some u0 → v = bI u.1 → decode cX9_inputs pc = .ok (.ireturn, 1) → W p l e { frames := 3, cells := 0, slots := 0, locals := 63 } s m args below meth c H locs 0 0 (QI below D [] (wX9_inputs h_ h_received h_marks h_sending h_waveHigh h_waveBeats h_runHigh h_runBeats v_divisor v_clocks v_wanted v_rowsOn v_level v_form v_outputs v_byteKept v_receivedMany v_overrun v_sendingMany v_emptyUp v_lateUp v_lateCount v_waveMany v_lineIn v_sends v_sentCharacter v_sentForm v_sentBeat v_senderHigh v_takes v_sawHigh v_takenForm v_takenBeat v_takenBits v_takenParity v_beats v_out v_runs u0) (bI u0.1) args s A) (F0 m pc ls [.int v]) := fun u v H locs pc ls h1 h2 h3 h4 h5 h6 => rZ (wf := wX9_inputs h_ h_received h_marks h_sending h_waveHigh h_waveBeats h_runHigh h_runBeats v_divisor v_clocks v_wanted v_rowsOn v_level v_form v_outputs v_byteKept v_receivedMany v_overrun v_sendingMany v_emptyUp v_lateUp v_lateCount v_waveMany v_lineIn v_sends v_sentCharacter v_sentForm v_sentBeat v_senderHigh v_takes v_sawHigh v_takenForm v_takenBeat v_takenBits v_takenParity v_beats v_out v_runs) (rf := fun u => u.1) hx hb hr hlocks hK h1 h2 h3 h4 h5 h6
  unfold F_X9_inputs at hF
  refine lv_aload_n hx hb dX9_inputs_0 rfl (lv_at hl 0 rfl) ?_
  refine lv_iconst (v := 0) hx hb dX9_inputs_1 (by decide) ?_
  refine pf (ci := 8) (v := .int 0) (ty := .int) (C := RX9) (T := TX9) (N := 40) (ws' := [oX9 h_ v_divisor v_clocks v_wanted v_rowsOn v_level v_form v_outputs v_byteKept v_ins v_changed h_received h_marks v_receivedMany v_overrun h_sending v_sendingMany v_emptyUp v_lateUp v_lateCount h_waveHigh h_waveBeats v_waveMany v_lineIn v_sends v_sentCharacter v_sentForm v_sentBeat v_senderHigh v_takes v_sawHigh v_takenForm v_takenBeat v_takenBits v_takenParity v_beats v_out h_runHigh h_runBeats v_runs 0]) hx hb hts i_X9 tyX9_ok nmX9 hown hK hP hD hS 0 rfl rfl 39 (Nat.le_of_ble_eq_true rfl) f_35 rfl rfl (by decide +kernel) rfl rfl (Nat.le_of_ble_eq_true rfl) rfl dX9_inputs_2 (fun H locs hP hD hS => ?_)
  refine lv_iload_n hx hb dX9_inputs_5 rfl (lv_at hl 1 rfl) ?_
  refine lv_if_lt (tgt := 15) hx hb dX9_inputs_6 (by decide) (fun c1 => ?_) (fun c1 => ?_)
  · replace hF := it_t c1 hF
    refine lv_iconst (v := 0) hx hb dX9_inputs_15 (by decide) ?_
    exact hret (false, v_ins, v_changed, 0) 0 _ _ 16 _ hP hD hS hF rfl dX9_inputs_16
  · replace hF := it_f c1 hF
    refine lv_iload_n hx hb dX9_inputs_9 rfl (lv_at hl 1 rfl) ?_
    refine lv_bipush (v := 15) hx hb dX9_inputs_10 (by decide) ?_
    refine lv_icmp_le (tgt := 17) hx hb dX9_inputs_12 (by decide) (fun c2 => ?_) (fun c2 => ?_)
    · replace hF := it_t c2 hF
      refine lv_aload_n hx hb dX9_inputs_17 rfl (lv_at hl 0 rfl) ?_
      obtain ⟨u3, hu3, hF⟩ := bd_el hF
      refine cVI (q0 := 0) (ci := 8) (As := []) (rest := []) (wr := []) (ws' := [oX9 h_ v_divisor v_clocks v_wanted v_rowsOn v_level v_form v_outputs v_byteKept v_ins v_changed h_received h_marks v_receivedMany v_overrun h_sending v_sendingMany v_emptyUp v_lateUp v_lateCount h_waveHigh h_waveBeats v_waveMany v_lineIn v_sends v_sentCharacter v_sentForm v_sentBeat v_senderHigh v_takes v_sawHigh v_takenForm v_takenBeat v_takenBits v_takenParity v_beats v_out h_runHigh h_runBeats v_runs 0]) (rv := u3) ⟨hx, hb, hml, hown, hts⟩ (mX9_lines D h_ h_received h_marks h_sending h_waveHigh h_waveBeats h_runHigh h_runBeats v_divisor v_clocks v_wanted v_rowsOn v_level v_form v_outputs v_byteKept v_ins v_changed v_receivedMany v_overrun v_sendingMany v_emptyUp v_lateUp v_lateCount v_waveMany v_lineIn v_sends v_sentCharacter v_sentForm v_sentBeat v_senderHigh v_takes v_sawHigh v_takenForm v_takenBeat v_takenBits v_takenParity v_beats v_out v_runs 0 u3 hu3) (cwV 0 hts gX9_inputs_X9_lines rfl rfl rfl (by decide +kernel) ⟨Nat.le_of_ble_eq_true rfl, Nat.le_of_ble_eq_true rfl⟩) hK hP hD hS hA [] [0] [] [0] rfl rfl rfl rfl rfl rfl rfl rfl rfl hl.1 rfl (Nat.le_of_ble_eq_true rfl) rfl dX9_inputs_18 ⟨Nat.le_refl _, Nat.le_refl _⟩ (fun H locs hP hD hS => ?_)
      refine lv_istore_n (lv' := [(2, .int u3), (0, .ref h_), (1, .int p1)]) hx hb dX9_inputs_21 rfl hl (Nat.le_of_ble_eq_true rfl) rfl (fun ls hl => ?_)
      refine lv_aload_n hx hb dX9_inputs_22 rfl (lv_at hl 1 rfl) ?_
      refine lv_iload_n hx hb dX9_inputs_23 rfl (lv_at hl 2 rfl) ?_
      refine pf (ci := 8) (v := .int p1) (ty := .int) (C := RX9) (T := TX9) (N := 40) (ws' := [oX9 h_ v_divisor v_clocks v_wanted v_rowsOn v_level v_form v_outputs v_byteKept p1 v_changed h_received h_marks v_receivedMany v_overrun h_sending v_sendingMany v_emptyUp v_lateUp v_lateCount h_waveHigh h_waveBeats v_waveMany v_lineIn v_sends v_sentCharacter v_sentForm v_sentBeat v_senderHigh v_takes v_sawHigh v_takenForm v_takenBeat v_takenBits v_takenParity v_beats v_out h_runHigh h_runBeats v_runs 0]) hx hb hts i_X9 tyX9_ok nmX9 hown hK hP hD hS 0 rfl rfl 8 (Nat.le_of_ble_eq_true rfl) f_64 rfl rfl (by decide +kernel) rfl rfl (Nat.le_of_ble_eq_true rfl) rfl dX9_inputs_24 (fun H locs hP hD hS => ?_)
      refine lv_aload_n hx hb dX9_inputs_27 rfl (lv_at hl 1 rfl) ?_
      refine lv_iload_n hx hb dX9_inputs_28 rfl (lv_at hl 0 rfl) ?_
      obtain ⟨u4, hu4, hF⟩ := bd_el hF
      refine cVV (q0 := 0) (ci := 8) (As := [.int u3]) (rest := []) (wr := []) (ws' := [oX9 h_ v_divisor v_clocks v_wanted v_rowsOn v_level v_form v_outputs v_byteKept p1 u4 h_received h_marks v_receivedMany v_overrun h_sending v_sendingMany v_emptyUp v_lateUp v_lateCount h_waveHigh h_waveBeats v_waveMany v_lineIn v_sends v_sentCharacter v_sentForm v_sentBeat v_senderHigh v_takes v_sawHigh v_takenForm v_takenBeat v_takenBits v_takenParity v_beats v_out h_runHigh h_runBeats v_runs 0]) ⟨hx, hb, hml, hown, hts⟩ (mX9_notice D h_ h_received h_marks h_sending h_waveHigh h_waveBeats h_runHigh h_runBeats v_divisor v_clocks v_wanted v_rowsOn v_level v_form v_outputs v_byteKept p1 v_changed v_receivedMany v_overrun v_sendingMany v_emptyUp v_lateUp v_lateCount v_waveMany v_lineIn v_sends v_sentCharacter v_sentForm v_sentBeat v_senderHigh v_takes v_sawHigh v_takenForm v_takenBeat v_takenBits v_takenParity v_beats v_out v_runs 0 u3 u4 hu4) (cwV 1 hts gX9_inputs_X9_notice rfl rfl rfl (by decide +kernel) ⟨Nat.le_of_ble_eq_true rfl, Nat.le_of_ble_eq_true rfl⟩) hK hP hD hS hA [] [0] [] [0] rfl rfl rfl rfl rfl rfl rfl rfl rfl hl.1 rfl (Nat.le_of_ble_eq_true rfl) dX9_inputs_29 ⟨Nat.le_refl _, Nat.le_refl _⟩ (fun H locs hP hD hS => ?_)
      refine lv_iconst (v := 1) hx hb dX9_inputs_32 (by decide) ?_
      exact hret (true, p1, u4, 0) 1 _ _ 33 _ hP hD hS hF rfl dX9_inputs_33
    · replace hF := it_f c2 hF
      refine lv_iconst (v := 0) hx hb dX9_inputs_15 (by decide) ?_
      exact hret (false, v_ins, v_changed, 0) 0 _ _ 16 _ hP hD hS hF rfl dX9_inputs_16
