theorem dX9_wave_0 : decode cX9_wave 0 = .ok (.aload_n 0, 1) := by decide +kernel
theorem dX9_wave_1 : decode cX9_wave 1 = .ok (.iconst 0, 1) := by decide +kernel
theorem dX9_wave_2 : decode cX9_wave 2 = .ok (.putfield 35, 3) := by decide +kernel
theorem dX9_wave_5 : decode cX9_wave 5 = .ok (.iload_n 2, 1) := by decide +kernel
theorem dX9_wave_6 : decode cX9_wave 6 = .ok (.iconst 1, 1) := by decide +kernel
theorem dX9_wave_7 : decode cX9_wave 7 = .ok (.if_icmp .lt 20, 3) := by decide +kernel
theorem dX9_wave_10 : decode cX9_wave 10 = .ok (.iload_n 2, 1) := by decide +kernel
theorem dX9_wave_11 : decode cX9_wave 11 = .ok (.sipush 4000, 3) := by decide +kernel
theorem dX9_wave_14 : decode cX9_wave 14 = .ok (.if_icmp .gt 13, 3) := by decide +kernel
theorem dX9_wave_17 : decode cX9_wave 17 = .ok (.aload_n 0, 1) := by decide +kernel
theorem dX9_wave_18 : decode cX9_wave 18 = .ok (.getfield 88, 3) := by decide +kernel
theorem dX9_wave_21 : decode cX9_wave 21 = .ok (.sipush 500, 3) := by decide +kernel
theorem dX9_wave_24 : decode cX9_wave 24 = .ok (.if_icmp .ne 5, 3) := by decide +kernel
theorem dX9_wave_27 : decode cX9_wave 27 = .ok (.iconst (-1), 1) := by decide +kernel
theorem dX9_wave_28 : decode cX9_wave 28 = .ok (.ireturn, 1) := by decide +kernel
theorem dX9_wave_29 : decode cX9_wave 29 = .ok (.aload_n 0, 1) := by decide +kernel
theorem dX9_wave_30 : decode cX9_wave 30 = .ok (.getfield 19, 3) := by decide +kernel
theorem dX9_wave_33 : decode cX9_wave 33 = .ok (.aload_n 0, 1) := by decide +kernel
theorem dX9_wave_34 : decode cX9_wave 34 = .ok (.getfield 88, 3) := by decide +kernel
theorem dX9_wave_37 : decode cX9_wave 37 = .ok (.iload_n 1, 1) := by decide +kernel
theorem dX9_wave_38 : decode cX9_wave 38 = .ok (.bastore, 1) := by decide +kernel
theorem dX9_wave_39 : decode cX9_wave 39 = .ok (.aload_n 0, 1) := by decide +kernel
theorem dX9_wave_40 : decode cX9_wave 40 = .ok (.getfield 23, 3) := by decide +kernel
theorem dX9_wave_43 : decode cX9_wave 43 = .ok (.aload_n 0, 1) := by decide +kernel
theorem dX9_wave_44 : decode cX9_wave 44 = .ok (.getfield 88, 3) := by decide +kernel
theorem dX9_wave_47 : decode cX9_wave 47 = .ok (.iload_n 2, 1) := by decide +kernel
theorem dX9_wave_48 : decode cX9_wave 48 = .ok (.iastore, 1) := by decide +kernel
theorem dX9_wave_49 : decode cX9_wave 49 = .ok (.aload_n 0, 1) := by decide +kernel
theorem dX9_wave_50 : decode cX9_wave 50 = .ok (.dup, 1) := by decide +kernel
theorem dX9_wave_51 : decode cX9_wave 51 = .ok (.getfield 88, 3) := by decide +kernel
theorem dX9_wave_54 : decode cX9_wave 54 = .ok (.iconst 1, 1) := by decide +kernel
theorem dX9_wave_55 : decode cX9_wave 55 = .ok (.iadd, 1) := by decide +kernel
theorem dX9_wave_56 : decode cX9_wave 56 = .ok (.putfield 88, 3) := by decide +kernel
theorem dX9_wave_59 : decode cX9_wave 59 = .ok (.aload_n 0, 1) := by decide +kernel
theorem dX9_wave_60 : decode cX9_wave 60 = .ok (.getfield 88, 3) := by decide +kernel
theorem dX9_wave_63 : decode cX9_wave 63 = .ok (.ireturn, 1) := by decide +kernel
theorem dX9_frame_0 : decode cX9_frame 0 = .ok (.aload_n 0, 1) := by decide +kernel
theorem dX9_frame_1 : decode cX9_frame 1 = .ok (.iconst 0, 1) := by decide +kernel
theorem dX9_frame_2 : decode cX9_frame 2 = .ok (.putfield 35, 3) := by decide +kernel
theorem dX9_frame_5 : decode cX9_frame 5 = .ok (.iconst 2, 1) := by decide +kernel
theorem dX9_frame_6 : decode cX9_frame 6 = .ok (.aload_n 0, 1) := by decide +kernel
theorem dX9_frame_7 : decode cX9_frame 7 = .ok (.getfield 55, 3) := by decide +kernel
theorem dX9_frame_10 : decode cX9_frame 10 = .ok (.invokestatic 115, 3) := by decide +kernel
theorem dX9_frame_13 : decode cX9_frame 13 = .ok (.iadd, 1) := by decide +kernel
theorem dX9_frame_14 : decode cX9_frame 14 = .ok (.aload_n 0, 1) := by decide +kernel
theorem dX9_frame_15 : decode cX9_frame 15 = .ok (.getfield 55, 3) := by decide +kernel
theorem dX9_frame_18 : decode cX9_frame 18 = .ok (.invokestatic 124, 3) := by decide +kernel
theorem dX9_frame_21 : decode cX9_frame 21 = .ok (.ifCond .eq 7, 3) := by decide +kernel
theorem dX9_frame_24 : decode cX9_frame 24 = .ok (.iconst 1, 1) := by decide +kernel
theorem dX9_frame_25 : decode cX9_frame 25 = .ok (.goto 4, 3) := by decide +kernel
theorem dX9_frame_28 : decode cX9_frame 28 = .ok (.iconst 0, 1) := by decide +kernel
theorem dX9_frame_29 : decode cX9_frame 29 = .ok (.iadd, 1) := by decide +kernel
theorem dX9_frame_30 : decode cX9_frame 30 = .ok (.istore_n 3, 1) := by decide +kernel
theorem dX9_frame_31 : decode cX9_frame 31 = .ok (.aload_n 0, 1) := by decide +kernel
theorem dX9_frame_32 : decode cX9_frame 32 = .ok (.getfield 88, 3) := by decide +kernel
theorem dX9_frame_35 : decode cX9_frame 35 = .ok (.iload_n 3, 1) := by decide +kernel
theorem dX9_frame_36 : decode cX9_frame 36 = .ok (.iadd, 1) := by decide +kernel
theorem dX9_frame_37 : decode cX9_frame 37 = .ok (.sipush 500, 3) := by decide +kernel
theorem dX9_frame_40 : decode cX9_frame 40 = .ok (.if_icmp .le 5, 3) := by decide +kernel
theorem dX9_frame_43 : decode cX9_frame 43 = .ok (.iconst (-1), 1) := by decide +kernel
theorem dX9_frame_44 : decode cX9_frame 44 = .ok (.ireturn, 1) := by decide +kernel
theorem dX9_frame_45 : decode cX9_frame 45 = .ok (.iconst 0, 1) := by decide +kernel
theorem dX9_frame_46 : decode cX9_frame 46 = .ok (.istore 4, 2) := by decide +kernel
theorem dX9_frame_48 : decode cX9_frame 48 = .ok (.iload 4, 2) := by decide +kernel
theorem dX9_frame_50 : decode cX9_frame 50 = .ok (.iload_n 3, 1) := by decide +kernel
theorem dX9_frame_51 : decode cX9_frame 51 = .ok (.if_icmp .ge 106, 3) := by decide +kernel
theorem dX9_frame_54 : decode cX9_frame 54 = .ok (.iload 4, 2) := by decide +kernel
theorem dX9_frame_56 : decode cX9_frame 56 = .ok (.iload_n 3, 1) := by decide +kernel
theorem dX9_frame_57 : decode cX9_frame 57 = .ok (.iconst 1, 1) := by decide +kernel
theorem dX9_frame_58 : decode cX9_frame 58 = .ok (.isub, 1) := by decide +kernel
theorem dX9_frame_59 : decode cX9_frame 59 = .ok (.if_icmp .eq 16, 3) := by decide +kernel
theorem dX9_frame_62 : decode cX9_frame 62 = .ok (.aload_n 0, 1) := by decide +kernel
theorem dX9_frame_63 : decode cX9_frame 63 = .ok (.getfield 55, 3) := by decide +kernel
theorem dX9_frame_66 : decode cX9_frame 66 = .ok (.iload_n 1, 1) := by decide +kernel
theorem dX9_frame_67 : decode cX9_frame 67 = .ok (.iload 4, 2) := by decide +kernel
theorem dX9_frame_69 : decode cX9_frame 69 = .ok (.invokestatic 178, 3) := by decide +kernel
theorem dX9_frame_72 : decode cX9_frame 72 = .ok (.ifCond .eq 7, 3) := by decide +kernel
theorem dX9_frame_75 : decode cX9_frame 75 = .ok (.iconst 1, 1) := by decide +kernel
theorem dX9_frame_76 : decode cX9_frame 76 = .ok (.goto 4, 3) := by decide +kernel
theorem dX9_frame_79 : decode cX9_frame 79 = .ok (.iconst 0, 1) := by decide +kernel
theorem dX9_frame_80 : decode cX9_frame 80 = .ok (.istore 5, 2) := by decide +kernel
theorem dX9_frame_82 : decode cX9_frame 82 = .ok (.aload_n 0, 1) := by decide +kernel
theorem dX9_frame_83 : decode cX9_frame 83 = .ok (.getfield 19, 3) := by decide +kernel
theorem dX9_frame_86 : decode cX9_frame 86 = .ok (.aload_n 0, 1) := by decide +kernel
theorem dX9_frame_87 : decode cX9_frame 87 = .ok (.getfield 88, 3) := by decide +kernel
theorem dX9_frame_90 : decode cX9_frame 90 = .ok (.iload 5, 2) := by decide +kernel
theorem dX9_frame_92 : decode cX9_frame 92 = .ok (.iload 4, 2) := by decide +kernel
theorem dX9_frame_94 : decode cX9_frame 94 = .ok (.iload_n 2, 1) := by decide +kernel
theorem dX9_frame_95 : decode cX9_frame 95 = .ok (.if_icmp .ne 7, 3) := by decide +kernel
theorem dX9_frame_98 : decode cX9_frame 98 = .ok (.iconst 1, 1) := by decide +kernel
theorem dX9_frame_99 : decode cX9_frame 99 = .ok (.goto 4, 3) := by decide +kernel
theorem dX9_frame_102 : decode cX9_frame 102 = .ok (.iconst 0, 1) := by decide +kernel
theorem dX9_frame_103 : decode cX9_frame 103 = .ok (.if_icmp .eq 7, 3) := by decide +kernel
theorem dX9_frame_106 : decode cX9_frame 106 = .ok (.iconst 1, 1) := by decide +kernel
theorem dX9_frame_107 : decode cX9_frame 107 = .ok (.goto 4, 3) := by decide +kernel
theorem dX9_frame_110 : decode cX9_frame 110 = .ok (.iconst 0, 1) := by decide +kernel
theorem dX9_frame_111 : decode cX9_frame 111 = .ok (.bastore, 1) := by decide +kernel
theorem dX9_frame_112 : decode cX9_frame 112 = .ok (.aload_n 0, 1) := by decide +kernel
theorem dX9_frame_113 : decode cX9_frame 113 = .ok (.getfield 23, 3) := by decide +kernel
theorem dX9_frame_116 : decode cX9_frame 116 = .ok (.aload_n 0, 1) := by decide +kernel
theorem dX9_frame_117 : decode cX9_frame 117 = .ok (.getfield 88, 3) := by decide +kernel
theorem dX9_frame_120 : decode cX9_frame 120 = .ok (.iload 4, 2) := by decide +kernel
theorem dX9_frame_122 : decode cX9_frame 122 = .ok (.iload_n 3, 1) := by decide +kernel
theorem dX9_frame_123 : decode cX9_frame 123 = .ok (.iconst 1, 1) := by decide +kernel
theorem dX9_frame_124 : decode cX9_frame 124 = .ok (.isub, 1) := by decide +kernel
theorem dX9_frame_125 : decode cX9_frame 125 = .ok (.if_icmp .ne 13, 3) := by decide +kernel
theorem dX9_frame_128 : decode cX9_frame 128 = .ok (.aload_n 0, 1) := by decide +kernel
theorem dX9_frame_129 : decode cX9_frame 129 = .ok (.getfield 55, 3) := by decide +kernel
theorem dX9_frame_132 : decode cX9_frame 132 = .ok (.invokestatic 128, 3) := by decide +kernel
theorem dX9_frame_135 : decode cX9_frame 135 = .ok (.goto 5, 3) := by decide +kernel
theorem dX9_frame_138 : decode cX9_frame 138 = .ok (.bipush 16, 2) := by decide +kernel
theorem dX9_frame_140 : decode cX9_frame 140 = .ok (.iastore, 1) := by decide +kernel
theorem dX9_frame_141 : decode cX9_frame 141 = .ok (.aload_n 0, 1) := by decide +kernel
theorem dX9_frame_142 : decode cX9_frame 142 = .ok (.dup, 1) := by decide +kernel
theorem dX9_frame_143 : decode cX9_frame 143 = .ok (.getfield 88, 3) := by decide +kernel
theorem dX9_frame_146 : decode cX9_frame 146 = .ok (.iconst 1, 1) := by decide +kernel
theorem dX9_frame_147 : decode cX9_frame 147 = .ok (.iadd, 1) := by decide +kernel
theorem dX9_frame_148 : decode cX9_frame 148 = .ok (.putfield 88, 3) := by decide +kernel
theorem dX9_frame_151 : decode cX9_frame 151 = .ok (.iinc 4 1, 3) := by decide +kernel
theorem dX9_frame_154 : decode cX9_frame 154 = .ok (.goto (-106), 3) := by decide +kernel
theorem dX9_frame_157 : decode cX9_frame 157 = .ok (.iload_n 3, 1) := by decide +kernel
theorem dX9_frame_158 : decode cX9_frame 158 = .ok (.ireturn, 1) := by decide +kernel
set_option maxRecDepth 20000 in
theorem ggX9_frame_X9_bitsOf : GoodIn wsX9_frame wsX9_bitsOf := goodIn_r _ [9] (by decide +kernel) (by decide +kernel)
set_option maxRecDepth 20000 in
theorem gX9_frame_X9_bitsOf : GoodIn wsX9_frame (va_wsS RX9 115 yX9_bitsOf wsX9_bitsOf) := goodIn_app (goodIn_of _ (by decide +kernel)) ggX9_frame_X9_bitsOf
set_option maxRecDepth 20000 in
theorem ggX9_frame_X9_hasParity : GoodIn wsX9_frame wsX9_hasParity := goodIn_r _ [12] (by decide +kernel) (by decide +kernel)
set_option maxRecDepth 20000 in
theorem gX9_frame_X9_hasParity : GoodIn wsX9_frame (va_wsS RX9 124 yX9_hasParity wsX9_hasParity) := goodIn_app (goodIn_of _ (by decide +kernel)) ggX9_frame_X9_hasParity
set_option maxRecDepth 20000 in
theorem ggX9_frame_X9_partOf : GoodIn wsX9_frame wsX9_partOf := goodIn_r _ [15, 6, 7, 8, 9, 10, 11, 12, 16, 17, 18, 19, 20, 21, 22, 23, 24, 25] (by decide +kernel) (by decide +kernel)
set_option maxRecDepth 20000 in
theorem gX9_frame_X9_partOf : GoodIn wsX9_frame (va_wsS RX9 178 yX9_partOf wsX9_partOf) := goodIn_app (goodIn_of _ (by decide +kernel)) ggX9_frame_X9_partOf
set_option maxRecDepth 20000 in
theorem ggX9_frame_X9_stopOf : GoodIn wsX9_frame wsX9_stopOf := goodIn_r _ [28, 6, 7, 8, 9] (by decide +kernel) (by decide +kernel)
set_option maxRecDepth 20000 in
theorem gX9_frame_X9_stopOf : GoodIn wsX9_frame (va_wsS RX9 128 yX9_stopOf wsX9_stopOf) := goodIn_app (goodIn_of _ (by decide +kernel)) ggX9_frame_X9_stopOf
theorem dX9_count_0 : decode cX9_count 0 = .ok (.aload_n 0, 1) := by decide +kernel
theorem dX9_count_1 : decode cX9_count 1 = .ok (.iconst 0, 1) := by decide +kernel
theorem dX9_count_2 : decode cX9_count 2 = .ok (.putfield 35, 3) := by decide +kernel
theorem dX9_count_5 : decode cX9_count 5 = .ok (.iload_n 1, 1) := by decide +kernel
theorem dX9_count_6 : decode cX9_count 6 = .ok (.tableswitch 128 0 8 #[50, 55, 60, 65, 79, 92, 97, 102, 115], 50) := by decide +kernel
theorem dX9_count_56 : decode cX9_count 56 = .ok (.aload_n 0, 1) := by decide +kernel
theorem dX9_count_57 : decode cX9_count 57 = .ok (.getfield 70, 3) := by decide +kernel
theorem dX9_count_60 : decode cX9_count 60 = .ok (.ireturn, 1) := by decide +kernel
theorem dX9_count_61 : decode cX9_count 61 = .ok (.aload_n 0, 1) := by decide +kernel
theorem dX9_count_62 : decode cX9_count 62 = .ok (.getfield 76, 3) := by decide +kernel
theorem dX9_count_65 : decode cX9_count 65 = .ok (.ireturn, 1) := by decide +kernel
theorem dX9_count_66 : decode cX9_count 66 = .ok (.aload_n 0, 1) := by decide +kernel
theorem dX9_count_67 : decode cX9_count 67 = .ok (.getfield 106, 3) := by decide +kernel
theorem dX9_count_70 : decode cX9_count 70 = .ok (.ireturn, 1) := by decide +kernel
theorem dX9_count_71 : decode cX9_count 71 = .ok (.aload_n 0, 1) := by decide +kernel
theorem dX9_count_72 : decode cX9_count 72 = .ok (.invokevirtual 163, 3) := by decide +kernel
theorem dX9_count_75 : decode cX9_count 75 = .ok (.iconst 1, 1) := by decide +kernel
theorem dX9_count_76 : decode cX9_count 76 = .ok (.if_icmp .ne 7, 3) := by decide +kernel
theorem dX9_count_79 : decode cX9_count 79 = .ok (.iconst 0, 1) := by decide +kernel
theorem dX9_count_80 : decode cX9_count 80 = .ok (.goto 4, 3) := by decide +kernel
theorem dX9_count_83 : decode cX9_count 83 = .ok (.iconst 1, 1) := by decide +kernel
theorem dX9_count_84 : decode cX9_count 84 = .ok (.ireturn, 1) := by decide +kernel
theorem dX9_count_85 : decode cX9_count 85 = .ok (.aload_n 0, 1) := by decide +kernel
theorem dX9_count_86 : decode cX9_count 86 = .ok (.getfield 109, 3) := by decide +kernel
theorem dX9_count_89 : decode cX9_count 89 = .ok (.ifCond .eq 7, 3) := by decide +kernel
theorem dX9_count_92 : decode cX9_count 92 = .ok (.iconst 1, 1) := by decide +kernel
theorem dX9_count_93 : decode cX9_count 93 = .ok (.goto 4, 3) := by decide +kernel
theorem dX9_count_96 : decode cX9_count 96 = .ok (.iconst 0, 1) := by decide +kernel
theorem dX9_count_97 : decode cX9_count 97 = .ok (.ireturn, 1) := by decide +kernel
theorem dX9_count_98 : decode cX9_count 98 = .ok (.aload_n 0, 1) := by decide +kernel
theorem dX9_count_99 : decode cX9_count 99 = .ok (.getfield 88, 3) := by decide +kernel
theorem dX9_count_102 : decode cX9_count 102 = .ok (.ireturn, 1) := by decide +kernel
theorem dX9_count_103 : decode cX9_count 103 = .ok (.aload_n 0, 1) := by decide +kernel
theorem dX9_count_104 : decode cX9_count 104 = .ok (.getfield 112, 3) := by decide +kernel
theorem dX9_count_107 : decode cX9_count 107 = .ok (.ireturn, 1) := by decide +kernel
theorem dX9_count_108 : decode cX9_count 108 = .ok (.aload_n 0, 1) := by decide +kernel
theorem dX9_count_109 : decode cX9_count 109 = .ok (.getfield 94, 3) := by decide +kernel
theorem dX9_count_112 : decode cX9_count 112 = .ok (.ifCond .eq 7, 3) := by decide +kernel
theorem dX9_count_115 : decode cX9_count 115 = .ok (.iconst 1, 1) := by decide +kernel
theorem dX9_count_116 : decode cX9_count 116 = .ok (.goto 4, 3) := by decide +kernel
theorem dX9_count_119 : decode cX9_count 119 = .ok (.iconst 0, 1) := by decide +kernel
theorem dX9_count_120 : decode cX9_count 120 = .ok (.ireturn, 1) := by decide +kernel
theorem dX9_count_121 : decode cX9_count 121 = .ok (.aload_n 0, 1) := by decide +kernel
theorem dX9_count_122 : decode cX9_count 122 = .ok (.getfield 100, 3) := by decide +kernel
theorem dX9_count_125 : decode cX9_count 125 = .ok (.ifCond .eq 7, 3) := by decide +kernel
theorem dX9_count_128 : decode cX9_count 128 = .ok (.iconst 1, 1) := by decide +kernel
theorem dX9_count_129 : decode cX9_count 129 = .ok (.goto 4, 3) := by decide +kernel
theorem dX9_count_132 : decode cX9_count 132 = .ok (.iconst 0, 1) := by decide +kernel
theorem dX9_count_133 : decode cX9_count 133 = .ok (.ireturn, 1) := by decide +kernel
theorem dX9_count_134 : decode cX9_count 134 = .ok (.iconst (-1), 1) := by decide +kernel
theorem dX9_count_135 : decode cX9_count 135 = .ok (.ireturn, 1) := by decide +kernel
set_option maxRecDepth 20000 in
theorem ggX9_count_X9_reason : GoodIn wsX9_count wsX9_reason := goodIn_r _ [14, 15, 16, 2, 17, 18, 19, 20, 21, 22, 23, 24, 13, 25, 26, 27, 28, 29, 30, 31, 32, 33, 34, 35, 36, 37, 38, 39, 40, 41, 42, 43, 44, 45, 46, 47, 48, 49, 50, 51, 52, 53, 54, 55, 56, 57, 58, 59, 60, 61, 62, 63, 64, 65, 66] (by decide +kernel) (by decide +kernel)
set_option maxRecDepth 20000 in
theorem gX9_count_X9_reason : GoodIn wsX9_count (wsV RX9 163 RX9 yX9_reason wsX9_reason) := goodIn_app (goodIn_of _ (by decide +kernel)) ggX9_count_X9_reason
theorem dX9_run_0 : decode cX9_run 0 = .ok (.aload_n 0, 1) := by decide +kernel
theorem dX9_run_1 : decode cX9_run 1 = .ok (.iconst 0, 1) := by decide +kernel
theorem dX9_run_2 : decode cX9_run 2 = .ok (.putfield 35, 3) := by decide +kernel
theorem dX9_run_5 : decode cX9_run 5 = .ok (.iload_n 1, 1) := by decide +kernel
theorem dX9_run_6 : decode cX9_run 6 = .ok (.ifCond .lt 26, 3) := by decide +kernel
theorem dX9_run_9 : decode cX9_run 9 = .ok (.iload_n 1, 1) := by decide +kernel
theorem dX9_run_10 : decode cX9_run 10 = .ok (.bipush 40, 2) := by decide +kernel
theorem dX9_run_12 : decode cX9_run 12 = .ok (.if_icmp .ge 20, 3) := by decide +kernel
theorem dX9_run_15 : decode cX9_run 15 = .ok (.iload_n 1, 1) := by decide +kernel
theorem dX9_run_16 : decode cX9_run 16 = .ok (.aload_n 0, 1) := by decide +kernel
theorem dX9_run_17 : decode cX9_run 17 = .ok (.getfield 112, 3) := by decide +kernel
theorem dX9_run_20 : decode cX9_run 20 = .ok (.if_icmp .ge 12, 3) := by decide +kernel
theorem dX9_run_23 : decode cX9_run 23 = .ok (.iload_n 2, 1) := by decide +kernel
theorem dX9_run_24 : decode cX9_run 24 = .ok (.ifCond .lt 8, 3) := by decide +kernel
theorem dX9_run_27 : decode cX9_run 27 = .ok (.iload_n 2, 1) := by decide +kernel
theorem dX9_run_28 : decode cX9_run 28 = .ok (.iconst 1, 1) := by decide +kernel
theorem dX9_run_29 : decode cX9_run 29 = .ok (.if_icmp .le 5, 3) := by decide +kernel
theorem dX9_run_32 : decode cX9_run 32 = .ok (.iconst (-1), 1) := by decide +kernel
theorem dX9_run_33 : decode cX9_run 33 = .ok (.ireturn, 1) := by decide +kernel
theorem dX9_run_34 : decode cX9_run 34 = .ok (.aload_n 0, 1) := by decide +kernel
theorem dX9_run_35 : decode cX9_run 35 = .ok (.getfield 112, 3) := by decide +kernel
theorem dX9_run_38 : decode cX9_run 38 = .ok (.iconst 1, 1) := by decide +kernel
theorem dX9_run_39 : decode cX9_run 39 = .ok (.isub, 1) := by decide +kernel
theorem dX9_run_40 : decode cX9_run 40 = .ok (.iload_n 1, 1) := by decide +kernel
theorem dX9_run_41 : decode cX9_run 41 = .ok (.isub, 1) := by decide +kernel
theorem dX9_run_42 : decode cX9_run 42 = .ok (.bipush 40, 2) := by decide +kernel
theorem dX9_run_44 : decode cX9_run 44 = .ok (.irem, 1) := by decide +kernel
theorem dX9_run_45 : decode cX9_run 45 = .ok (.istore_n 3, 1) := by decide +kernel
theorem dX9_run_46 : decode cX9_run 46 = .ok (.iload_n 2, 1) := by decide +kernel
theorem dX9_run_47 : decode cX9_run 47 = .ok (.iconst 1, 1) := by decide +kernel
theorem dX9_run_48 : decode cX9_run 48 = .ok (.if_icmp .ne 12, 3) := by decide +kernel
theorem dX9_run_51 : decode cX9_run 51 = .ok (.aload_n 0, 1) := by decide +kernel
theorem dX9_run_52 : decode cX9_run 52 = .ok (.getfield 29, 3) := by decide +kernel
theorem dX9_run_55 : decode cX9_run 55 = .ok (.iload_n 3, 1) := by decide +kernel
theorem dX9_run_56 : decode cX9_run 56 = .ok (.iaload, 1) := by decide +kernel
theorem dX9_run_57 : decode cX9_run 57 = .ok (.goto 17, 3) := by decide +kernel
theorem dX9_run_60 : decode cX9_run 60 = .ok (.aload_n 0, 1) := by decide +kernel
theorem dX9_run_61 : decode cX9_run 61 = .ok (.getfield 26, 3) := by decide +kernel
theorem dX9_run_64 : decode cX9_run 64 = .ok (.iload_n 3, 1) := by decide +kernel
theorem dX9_run_65 : decode cX9_run 65 = .ok (.baload, 1) := by decide +kernel
theorem dX9_run_66 : decode cX9_run 66 = .ok (.ifCond .eq 7, 3) := by decide +kernel
theorem dX9_run_69 : decode cX9_run 69 = .ok (.iconst 1, 1) := by decide +kernel
theorem dX9_run_70 : decode cX9_run 70 = .ok (.goto 4, 3) := by decide +kernel
theorem dX9_run_73 : decode cX9_run 73 = .ok (.iconst 0, 1) := by decide +kernel
theorem dX9_run_74 : decode cX9_run 74 = .ok (.ireturn, 1) := by decide +kernel
def F_X9_wave (p1 : Bool) (p2 : Int32) (v_waveMany : Int32) (v_thrown : Int32) (v_waveHigh_n : Nat) (v_waveHigh_a : Nat → Bool) (v_waveBeats_n : Nat) (v_waveBeats_a : Nat → Int32) : Option (Int32 × Int32 × Int32 × (Nat → Bool) × (Nat → Int32)) := if p2 < 1 then (some ((-1), v_waveMany, 0, v_waveHigh_a, v_waveBeats_a)) else (if 4000 < p2 then (some ((-1), v_waveMany, 0, v_waveHigh_a, v_waveBeats_a)) else (if v_waveMany = 500 then (some ((-1), v_waveMany, 0, v_waveHigh_a, v_waveBeats_a)) else (gd (inR v_waveMany v_waveHigh_n = true) (gd (inR v_waveMany v_waveBeats_n = true) (lt1 (v_waveMany + 1) (fun x6 => some (x6, x6, 0, va_up v_waveHigh_a (v_waveMany.toNatClampNeg) p1, upd v_waveBeats_a (v_waveMany.toNatClampNeg) p2)))))))
def wX9_wave (k_waveHigh : ClassId) (k_waveBeats : ClassId) (h_ : Nat) (h_received : Nat) (h_marks : Nat) (h_sending : Nat) (h_waveHigh : Nat) (h_waveBeats : Nat) (h_runHigh : Nat) (h_runBeats : Nat) (v_divisor : Int32) (v_clocks : Int32) (v_wanted : Int32) (v_rowsOn : Bool) (v_level : Int32) (v_form : Int32) (v_outputs : Int32) (v_byteKept : Int32) (v_ins : Int32) (v_changed : Int32) (v_receivedMany : Int32) (v_overrun : Bool) (v_sendingMany : Int32) (v_emptyUp : Bool) (v_lateUp : Bool) (v_lateCount : Int32) (v_lineIn : Bool) (v_sends : Bool) (v_sentCharacter : Int32) (v_sentForm : Int32) (v_sentBeat : Int32) (v_senderHigh : Bool) (v_takes : Bool) (v_sawHigh : Bool) (v_takenForm : Int32) (v_takenBeat : Int32) (v_takenBits : Int32) (v_takenParity : Int32) (v_beats : Int32) (v_out : Bool) (v_runs : Int32) (v_waveHigh_n : Nat) (v_waveBeats_n : Nat) (u : Int32 × Int32 × Int32 × (Nat → Bool) × (Nat → Int32)) : va_W := [oX9 h_ v_divisor v_clocks v_wanted v_rowsOn v_level v_form v_outputs v_byteKept v_ins v_changed h_received h_marks v_receivedMany v_overrun h_sending v_sendingMany v_emptyUp v_lateUp v_lateCount h_waveHigh h_waveBeats u.2.1 v_lineIn v_sends v_sentCharacter v_sentForm v_sentBeat v_senderHigh v_takes v_sawHigh v_takenForm v_takenBeat v_takenBits v_takenParity v_beats v_out h_runHigh h_runBeats v_runs u.2.2.1, aZ h_waveHigh k_waveHigh v_waveHigh_n u.2.2.2.1, aI h_waveBeats k_waveBeats v_waveBeats_n u.2.2.2.2]
set_option maxHeartbeats 4000000 in
set_option maxRecDepth 100000 in
theorem mX9_wave {l : Launch} (D : va_G) (k_waveHigh : ClassId) (k_waveBeats : ClassId) (h_ : Nat) (h_received : Nat) (h_marks : Nat) (h_sending : Nat) (h_waveHigh : Nat) (h_waveBeats : Nat) (h_runHigh : Nat) (h_runBeats : Nat) (v_divisor : Int32) (v_clocks : Int32) (v_wanted : Int32) (v_rowsOn : Bool) (v_level : Int32) (v_form : Int32) (v_outputs : Int32) (v_byteKept : Int32) (v_ins : Int32) (v_changed : Int32) (v_receivedMany : Int32) (v_overrun : Bool) (v_sendingMany : Int32) (v_emptyUp : Bool) (v_lateUp : Bool) (v_lateCount : Int32) (v_waveMany : Int32) (v_lineIn : Bool) (v_sends : Bool) (v_sentCharacter : Int32) (v_sentForm : Int32) (v_sentBeat : Int32) (v_senderHigh : Bool) (v_takes : Bool) (v_sawHigh : Bool) (v_takenForm : Int32) (v_takenBeat : Int32) (v_takenBits : Int32) (v_takenParity : Int32) (v_beats : Int32) (v_out : Bool) (v_runs : Int32) (v_thrown : Int32) (v_waveHigh_n : Nat) (v_waveHigh_a : Nat → Bool) (v_waveBeats_n : Nat) (v_waveBeats_a : Nat → Int32) (p1 : Bool) (p2 : Int32) (u0 : Int32 × Int32 × Int32 × (Nat → Bool) × (Nat → Int32)) (hF : F_X9_wave p1 p2 v_waveMany v_thrown v_waveHigh_n v_waveHigh_a v_waveBeats_n v_waveBeats_a = some u0) : MI l yX9_wave wsX9_wave { frames := 0, cells := 0, slots := 0, locals := 0 } D [(k_waveHigh, .boolean), (k_waveBeats, .int)] [.ref h_, .int (bI p1), .int p2] [oX9 h_ v_divisor v_clocks v_wanted v_rowsOn v_level v_form v_outputs v_byteKept v_ins v_changed h_received h_marks v_receivedMany v_overrun h_sending v_sendingMany v_emptyUp v_lateUp v_lateCount h_waveHigh h_waveBeats v_waveMany v_lineIn v_sends v_sentCharacter v_sentForm v_sentBeat v_senderHigh v_takes v_sawHigh v_takenForm v_takenBeat v_takenBits v_takenParity v_beats v_out h_runHigh h_runBeats v_runs v_thrown, aZ h_waveHigh k_waveHigh v_waveHigh_n v_waveHigh_a, aI h_waveBeats k_waveBeats v_waveBeats_n v_waveBeats_a] (wX9_wave k_waveHigh k_waveBeats h_ h_received h_marks h_sending h_waveHigh h_waveBeats h_runHigh h_runBeats v_divisor v_clocks v_wanted v_rowsOn v_level v_form v_outputs v_byteKept v_ins v_changed v_receivedMany v_overrun v_sendingMany v_emptyUp v_lateUp v_lateCount v_lineIn v_sends v_sentCharacter v_sentForm v_sentBeat v_senderHigh v_takes v_sawHigh v_takenForm v_takenBeat v_takenBits v_takenParity v_beats v_out v_runs v_waveHigh_n v_waveBeats_n u0) (u0.1) := by
  refine MI.ofW (cc := cX9_wave) (maxL := 3) (ret := (some .int)) (lv := [(0, .ref h_), (1, .int (bI p1)), (2, .int p2)]) (by decide +kernel) rfl (Nat.le_of_ble_eq_true rfl) rfl ?_
  intro p e s m args below meth c A ls hx hb hr hml hts hown hlocks hA hK hP hD hS hl
  replace hown : s.vm.findClass RX9 = some m.cls := hown
  have i_X9 : ∀ w ∈ wsX90, w ∈ wsX9_wave := by decide +kernel
  have f_19 := hts (.fieldLink RX9 19 "SerialPortModel" "waveHigh" "[Z") (by decide +kernel)
  have f_23 := hts (.fieldLink RX9 23 "SerialPortModel" "waveBeats" "[I") (by decide +kernel)
  have f_35 := hts (.fieldLink RX9 35 "SerialPortModel" "thrown" "I") (by decide +kernel)
  have f_88 := hts (.fieldLink RX9 88 "SerialPortModel" "waveMany" "I") (by decide +kernel)
  have hret : ∀ (u : Int32 × Int32 × Int32 × (Nat → Bool) × (Nat → Int32)) (v : Int32) (H : Heap) (locs : List Loc) (pc : Nat) (ls : Array Slot), va_P D vwCl (wX9_wave k_waveHigh k_waveBeats h_ h_received h_marks h_sending h_waveHigh h_waveBeats h_runHigh h_runBeats v_divisor v_clocks v_wanted v_rowsOn v_level v_form v_outputs v_byteKept v_ins v_changed v_receivedMany v_overrun v_sendingMany v_emptyUp v_lateUp v_lateCount v_lineIn v_sends v_sentCharacter v_sentForm v_sentBeat v_senderHigh v_takes v_sawHigh v_takenForm v_takenBeat v_takenBits v_takenParity v_beats v_out v_runs v_waveHigh_n v_waveBeats_n u) H → va_D A (wX9_wave k_waveHigh k_waveBeats h_ h_received h_marks h_sending h_waveHigh h_waveBeats h_runHigh h_runBeats v_divisor v_clocks v_wanted v_rowsOn v_level v_form v_outputs v_byteKept v_ins v_changed v_receivedMany v_overrun v_sendingMany v_emptyUp v_lateUp v_lateCount v_lineIn v_sends v_sentCharacter v_sentForm v_sentBeat v_senderHigh v_takes v_sawHigh v_takenForm v_takenBeat v_takenBits v_takenParity v_beats v_out v_runs v_waveHigh_n v_waveBeats_n u) → va_S A s.heap H locs → some u = some u0 → v = u.1 → decode cX9_wave pc = .ok (.ireturn, 1) → W p l e { frames := 0, cells := 0, slots := 0, locals := 0 } s m args below meth c H locs 0 0 (QI below D [(k_waveHigh, .boolean), (k_waveBeats, .int)] (wX9_wave k_waveHigh k_waveBeats h_ h_received h_marks h_sending h_waveHigh h_waveBeats h_runHigh h_runBeats v_divisor v_clocks v_wanted v_rowsOn v_level v_form v_outputs v_byteKept v_ins v_changed v_receivedMany v_overrun v_sendingMany v_emptyUp v_lateUp v_lateCount v_lineIn v_sends v_sentCharacter v_sentForm v_sentBeat v_senderHigh v_takes v_sawHigh v_takenForm v_takenBeat v_takenBits v_takenParity v_beats v_out v_runs v_waveHigh_n v_waveBeats_n u0) (u0.1) args s A) (F0 m pc ls [.int v]) := fun u v H locs pc ls h1 h2 h3 h4 h5 h6 => rI (wf := wX9_wave k_waveHigh k_waveBeats h_ h_received h_marks h_sending h_waveHigh h_waveBeats h_runHigh h_runBeats v_divisor v_clocks v_wanted v_rowsOn v_level v_form v_outputs v_byteKept v_ins v_changed v_receivedMany v_overrun v_sendingMany v_emptyUp v_lateUp v_lateCount v_lineIn v_sends v_sentCharacter v_sentForm v_sentBeat v_senderHigh v_takes v_sawHigh v_takenForm v_takenBeat v_takenBits v_takenParity v_beats v_out v_runs v_waveHigh_n v_waveBeats_n) (rf := fun u => u.1) hx hb hr hlocks hK h1 h2 h3 h4 h5 h6
  unfold F_X9_wave at hF
  refine lv_aload_n hx hb dX9_wave_0 rfl (lv_at hl 0 rfl) ?_
  refine lv_iconst (v := 0) hx hb dX9_wave_1 (by decide) ?_
  refine pf (ci := 8) (v := .int 0) (ty := .int) (C := RX9) (T := TX9) (N := 40) (ws' := [oX9 h_ v_divisor v_clocks v_wanted v_rowsOn v_level v_form v_outputs v_byteKept v_ins v_changed h_received h_marks v_receivedMany v_overrun h_sending v_sendingMany v_emptyUp v_lateUp v_lateCount h_waveHigh h_waveBeats v_waveMany v_lineIn v_sends v_sentCharacter v_sentForm v_sentBeat v_senderHigh v_takes v_sawHigh v_takenForm v_takenBeat v_takenBits v_takenParity v_beats v_out h_runHigh h_runBeats v_runs 0, aZ h_waveHigh k_waveHigh v_waveHigh_n v_waveHigh_a, aI h_waveBeats k_waveBeats v_waveBeats_n v_waveBeats_a]) hx hb hts i_X9 tyX9_ok nmX9 hown hK hP hD hS 0 rfl rfl 39 (Nat.le_of_ble_eq_true rfl) f_35 rfl rfl (by decide +kernel) rfl rfl (Nat.le_of_ble_eq_true rfl) rfl dX9_wave_2 (fun H locs hP hD hS => ?_)
  refine lv_iload_n hx hb dX9_wave_5 rfl (lv_at hl 2 rfl) ?_
  refine lv_iconst (v := 1) hx hb dX9_wave_6 (by decide) ?_
  refine lv_icmp_lt (tgt := 27) hx hb dX9_wave_7 (by decide) (fun c1 => ?_) (fun c1 => ?_)
  · replace hF := it_t c1 hF
    refine lv_iconst (v := (-1)) hx hb dX9_wave_27 (by decide) ?_
    exact hret ((-1), v_waveMany, 0, v_waveHigh_a, v_waveBeats_a) (-1) _ _ 28 _ hP hD hS hF rfl dX9_wave_28
  · replace hF := it_f c1 hF
    refine lv_iload_n hx hb dX9_wave_10 rfl (lv_at hl 2 rfl) ?_
    refine lv_sipush (v := 4000) hx hb dX9_wave_11 (by decide) ?_
    refine lv_icmp_gt (tgt := 27) hx hb dX9_wave_14 (by decide) (fun c2 => ?_) (fun c2 => ?_)
    · replace hF := it_t c2 hF
      refine lv_iconst (v := (-1)) hx hb dX9_wave_27 (by decide) ?_
      exact hret ((-1), v_waveMany, 0, v_waveHigh_a, v_waveBeats_a) (-1) _ _ 28 _ hP hD hS hF rfl dX9_wave_28
    · replace hF := it_f c2 hF
      refine lv_aload_n hx hb dX9_wave_17 rfl (lv_at hl 0 rfl) ?_
      refine va_get (D := D) (ci := 8) (v := .int v_waveMany) (C := RX9) (T := TX9) (N := 40) hx hb hts i_X9 hown hK hP 0 rfl rfl 21 (Nat.le_of_ble_eq_true rfl) f_88 (fun _ h9 => h9) rfl dX9_wave_18 ?_
      refine lv_sipush (v := 500) hx hb dX9_wave_21 (by decide) ?_
      refine lv_icmp_ne (tgt := 29) hx hb dX9_wave_24 (by decide) (fun c3 => ?_) (fun c3 => ?_)
      · replace hF := it_f c3 hF
        refine lv_aload_n hx hb dX9_wave_29 rfl (lv_at hl 0 rfl) ?_
        refine va_get (D := D) (ci := 8) (v := .ref h_waveHigh) (C := RX9) (T := TX9) (N := 40) hx hb hts i_X9 hown hK hP 0 rfl rfl 19 (Nat.le_of_ble_eq_true rfl) f_19 (fun _ h9 => h9) rfl dX9_wave_30 ?_
        refine lv_aload_n hx hb dX9_wave_33 rfl (lv_at hl 0 rfl) ?_
        refine va_get (D := D) (ci := 8) (v := .int v_waveMany) (C := RX9) (T := TX9) (N := 40) hx hb hts i_X9 hown hK hP 0 rfl rfl 21 (Nat.le_of_ble_eq_true rfl) f_88 (fun _ h9 => h9) rfl dX9_wave_34 ?_
        refine lv_iload_n hx hb dX9_wave_37 rfl (lv_at hl 1 rfl) ?_
        obtain ⟨g4, hF⟩ := gd_el hF
        refine zas (x := p1) (ws' := [oX9 h_ v_divisor v_clocks v_wanted v_rowsOn v_level v_form v_outputs v_byteKept v_ins v_changed h_received h_marks v_receivedMany v_overrun h_sending v_sendingMany v_emptyUp v_lateUp v_lateCount h_waveHigh h_waveBeats v_waveMany v_lineIn v_sends v_sentCharacter v_sentForm v_sentBeat v_senderHigh v_takes v_sawHigh v_takenForm v_takenBeat v_takenBits v_takenParity v_beats v_out h_runHigh h_runBeats v_runs 0, aZ h_waveHigh k_waveHigh v_waveHigh_n (va_up v_waveHigh_a (v_waveMany.toNatClampNeg) p1), aI h_waveBeats k_waveBeats v_waveBeats_n v_waveBeats_a]) hx hb hK hP hD hS 1 0 rfl rfl rfl g4 rfl dX9_wave_38 (fun H locs hP hD hS => ?_)
        refine lv_aload_n hx hb dX9_wave_39 rfl (lv_at hl 0 rfl) ?_
        refine va_get (D := D) (ci := 8) (v := .ref h_waveBeats) (C := RX9) (T := TX9) (N := 40) hx hb hts i_X9 hown hK hP 0 rfl rfl 20 (Nat.le_of_ble_eq_true rfl) f_23 (fun _ h9 => h9) rfl dX9_wave_40 ?_
        refine lv_aload_n hx hb dX9_wave_43 rfl (lv_at hl 0 rfl) ?_
        refine va_get (D := D) (ci := 8) (v := .int v_waveMany) (C := RX9) (T := TX9) (N := 40) hx hb hts i_X9 hown hK hP 0 rfl rfl 21 (Nat.le_of_ble_eq_true rfl) f_88 (fun _ h9 => h9) rfl dX9_wave_44 ?_
        refine lv_iload_n hx hb dX9_wave_47 rfl (lv_at hl 2 rfl) ?_
        obtain ⟨g5, hF⟩ := gd_el hF
        refine ias (ws' := [oX9 h_ v_divisor v_clocks v_wanted v_rowsOn v_level v_form v_outputs v_byteKept v_ins v_changed h_received h_marks v_receivedMany v_overrun h_sending v_sendingMany v_emptyUp v_lateUp v_lateCount h_waveHigh h_waveBeats v_waveMany v_lineIn v_sends v_sentCharacter v_sentForm v_sentBeat v_senderHigh v_takes v_sawHigh v_takenForm v_takenBeat v_takenBits v_takenParity v_beats v_out h_runHigh h_runBeats v_runs 0, aZ h_waveHigh k_waveHigh v_waveHigh_n (va_up v_waveHigh_a (v_waveMany.toNatClampNeg) p1), aI h_waveBeats k_waveBeats v_waveBeats_n (upd v_waveBeats_a (v_waveMany.toNatClampNeg) p2)]) hx hb hK hP hD hS 2 1 rfl rfl g5 rfl dX9_wave_48 (fun H locs hP hD hS => ?_)
        refine lv_aload_n hx hb dX9_wave_49 rfl (lv_at hl 0 rfl) ?_
        refine lv_dup hx hb dX9_wave_50 rfl ?_
        refine va_get (D := D) (ci := 8) (v := .int v_waveMany) (C := RX9) (T := TX9) (N := 40) hx hb hts i_X9 hown hK hP 0 rfl rfl 21 (Nat.le_of_ble_eq_true rfl) f_88 (fun _ h9 => h9) rfl dX9_wave_51 ?_
        refine lv_iconst (v := 1) hx hb dX9_wave_54 (by decide) ?_
        refine lv_iadd hx hb dX9_wave_55 ?_
        refine lv_topi (fun x6 ex6 => ?_)
        replace hF := lt1_x ex6 hF
        refine pf (ci := 8) (v := .int x6) (ty := .int) (C := RX9) (T := TX9) (N := 40) (ws' := [oX9 h_ v_divisor v_clocks v_wanted v_rowsOn v_level v_form v_outputs v_byteKept v_ins v_changed h_received h_marks v_receivedMany v_overrun h_sending v_sendingMany v_emptyUp v_lateUp v_lateCount h_waveHigh h_waveBeats x6 v_lineIn v_sends v_sentCharacter v_sentForm v_sentBeat v_senderHigh v_takes v_sawHigh v_takenForm v_takenBeat v_takenBits v_takenParity v_beats v_out h_runHigh h_runBeats v_runs 0, aZ h_waveHigh k_waveHigh v_waveHigh_n (va_up v_waveHigh_a (v_waveMany.toNatClampNeg) p1), aI h_waveBeats k_waveBeats v_waveBeats_n (upd v_waveBeats_a (v_waveMany.toNatClampNeg) p2)]) hx hb hts i_X9 tyX9_ok nmX9 hown hK hP hD hS 0 rfl rfl 21 (Nat.le_of_ble_eq_true rfl) f_88 rfl rfl (by decide +kernel) rfl rfl (Nat.le_of_ble_eq_true rfl) rfl dX9_wave_56 (fun H locs hP hD hS => ?_)
        refine lv_aload_n hx hb dX9_wave_59 rfl (lv_at hl 0 rfl) ?_
        refine va_get (D := D) (ci := 8) (v := .int x6) (C := RX9) (T := TX9) (N := 40) hx hb hts i_X9 hown hK hP 0 rfl rfl 21 (Nat.le_of_ble_eq_true rfl) f_88 (fun _ h9 => h9) rfl dX9_wave_60 ?_
        exact hret (x6, x6, 0, va_up v_waveHigh_a (v_waveMany.toNatClampNeg) p1, upd v_waveBeats_a (v_waveMany.toNatClampNeg) p2) x6 _ _ 63 _ hP hD hS hF rfl dX9_wave_63
      · replace hF := it_t c3 hF
        refine lv_iconst (v := (-1)) hx hb dX9_wave_27 (by decide) ?_
        exact hret ((-1), v_waveMany, 0, v_waveHigh_a, v_waveBeats_a) (-1) _ _ 28 _ hP hD hS hF rfl dX9_wave_28
def F_X9_frame_140 (rec : Int32 → Int32 → Int32 → Int32 → Int32 → Int32 → (Nat → Bool) → (Nat → Int32) → Option (Int32 × Int32 × Int32 × (Nat → Bool) × (Nat → Int32))) (v_form : Int32) (v_waveHigh_n : Nat) (v_waveBeats_n : Nat) (s1 : Int32) (s2 : Int32) (l1 : Int32) (l2 : Int32) (l3 : Int32) (l4 : Int32) (v_waveMany : Int32) (v_thrown : Int32) (v_waveHigh_a : Nat → Bool) (v_waveBeats_a : Nat → Int32) : Option (Int32 × Int32 × Int32 × (Nat → Bool) × (Nat → Int32)) := gd (inR s1 v_waveBeats_n = true) (lt1 (v_waveMany + 1) (fun x2 => lt1 (l4 + 1) (fun x3 => rec l1 l2 l3 x3 x2 v_thrown v_waveHigh_a (upd v_waveBeats_a (s1.toNatClampNeg) s2))))
def F_X9_frame_111 (rec : Int32 → Int32 → Int32 → Int32 → Int32 → Int32 → (Nat → Bool) → (Nat → Int32) → Option (Int32 × Int32 × Int32 × (Nat → Bool) × (Nat → Int32))) (v_form : Int32) (v_waveHigh_n : Nat) (v_waveBeats_n : Nat) (s1 : Int32) (s2 : Bool) (l1 : Int32) (l2 : Int32) (l3 : Int32) (l4 : Int32) (v_waveMany : Int32) (v_thrown : Int32) (v_waveHigh_a : Nat → Bool) (v_waveBeats_a : Nat → Int32) : Option (Int32 × Int32 × Int32 × (Nat → Bool) × (Nat → Int32)) := gd (inR s1 v_waveHigh_n = true) (if l4 = (l3 - 1) then (bd (F_X9_stopOf v_form) (fun u6 => F_X9_frame_140 rec v_form v_waveHigh_n v_waveBeats_n v_waveMany u6 l1 l2 l3 l4 v_waveMany v_thrown (va_up v_waveHigh_a (s1.toNatClampNeg) s2) v_waveBeats_a)) else (F_X9_frame_140 rec v_form v_waveHigh_n v_waveBeats_n v_waveMany 16 l1 l2 l3 l4 v_waveMany v_thrown (va_up v_waveHigh_a (s1.toNatClampNeg) s2) v_waveBeats_a))
def F_X9_frame_103 (rec : Int32 → Int32 → Int32 → Int32 → Int32 → Int32 → (Nat → Bool) → (Nat → Int32) → Option (Int32 × Int32 × Int32 × (Nat → Bool) × (Nat → Int32))) (v_form : Int32) (v_waveHigh_n : Nat) (v_waveBeats_n : Nat) (s1 : Int32) (s2 : Bool) (s3 : Bool) (l1 : Int32) (l2 : Int32) (l3 : Int32) (l4 : Int32) (v_waveMany : Int32) (v_thrown : Int32) (v_waveHigh_a : Nat → Bool) (v_waveBeats_a : Nat → Int32) : Option (Int32 × Int32 × Int32 × (Nat → Bool) × (Nat → Int32)) := if (bI s2) = (bI s3) then (F_X9_frame_111 rec v_form v_waveHigh_n v_waveBeats_n s1 false l1 l2 l3 l4 v_waveMany v_thrown v_waveHigh_a v_waveBeats_a) else (F_X9_frame_111 rec v_form v_waveHigh_n v_waveBeats_n s1 true l1 l2 l3 l4 v_waveMany v_thrown v_waveHigh_a v_waveBeats_a)
def F_X9_frame_80 (rec : Int32 → Int32 → Int32 → Int32 → Int32 → Int32 → (Nat → Bool) → (Nat → Int32) → Option (Int32 × Int32 × Int32 × (Nat → Bool) × (Nat → Int32))) (v_form : Int32) (v_waveHigh_n : Nat) (v_waveBeats_n : Nat) (s0 : Bool) (l1 : Int32) (l2 : Int32) (l3 : Int32) (l4 : Int32) (v_waveMany : Int32) (v_thrown : Int32) (v_waveHigh_a : Nat → Bool) (v_waveBeats_a : Nat → Int32) : Option (Int32 × Int32 × Int32 × (Nat → Bool) × (Nat → Int32)) := if l4 = l2 then (F_X9_frame_103 rec v_form v_waveHigh_n v_waveBeats_n v_waveMany s0 true l1 l2 l3 l4 v_waveMany v_thrown v_waveHigh_a v_waveBeats_a) else (F_X9_frame_103 rec v_form v_waveHigh_n v_waveBeats_n v_waveMany s0 false l1 l2 l3 l4 v_waveMany v_thrown v_waveHigh_a v_waveBeats_a)
def F_X9_frame_48_s (rec : Int32 → Int32 → Int32 → Int32 → Int32 → Int32 → (Nat → Bool) → (Nat → Int32) → Option (Int32 × Int32 × Int32 × (Nat → Bool) × (Nat → Int32))) (v_form : Int32) (v_waveHigh_n : Nat) (v_waveBeats_n : Nat) (l1 : Int32) (l2 : Int32) (l3 : Int32) (l4 : Int32) (v_waveMany : Int32) (v_thrown : Int32) (v_waveHigh_a : Nat → Bool) (v_waveBeats_a : Nat → Int32) : Option (Int32 × Int32 × Int32 × (Nat → Bool) × (Nat → Int32)) := if l3 ≤ l4 then (some (l3, v_waveMany, v_thrown, v_waveHigh_a, v_waveBeats_a)) else (if l4 = (l3 - 1) then (F_X9_frame_80 rec v_form v_waveHigh_n v_waveBeats_n true l1 l2 l3 l4 v_waveMany v_thrown v_waveHigh_a v_waveBeats_a) else (bd (F_X9_partOf v_form l1 l4) (fun u11 => bt u11 (F_X9_frame_80 rec v_form v_waveHigh_n v_waveBeats_n true l1 l2 l3 l4 v_waveMany v_thrown v_waveHigh_a v_waveBeats_a) (F_X9_frame_80 rec v_form v_waveHigh_n v_waveBeats_n false l1 l2 l3 l4 v_waveMany v_thrown v_waveHigh_a v_waveBeats_a))))
def F_X9_frame_48 (v_form : Int32) (v_waveHigh_n : Nat) (v_waveBeats_n : Nat) : Nat → Int32 → Int32 → Int32 → Int32 → Int32 → Int32 → (Nat → Bool) → (Nat → Int32) → Option (Int32 × Int32 × Int32 × (Nat → Bool) × (Nat → Int32))
  | 0 => fun _ _ _ _ _ _ _ _ => none
  | n + 1 => F_X9_frame_48_s (F_X9_frame_48 v_form v_waveHigh_n v_waveBeats_n n) v_form v_waveHigh_n v_waveBeats_n
def F_X9_frame_29 (v_form : Int32) (v_waveHigh_n : Nat) (v_waveBeats_n : Nat) (s0 : Int32) (s1 : Bool) (l1 : Int32) (l2 : Int32) (v_waveMany : Int32) (v_thrown : Int32) (v_waveHigh_a : Nat → Bool) (v_waveBeats_a : Nat → Int32) : Option (Int32 × Int32 × Int32 × (Nat → Bool) × (Nat → Int32)) := lt1 (s0 + (bI s1)) (fun x13 => if (v_waveMany + x13) ≤ 500 then (F_X9_frame_48 v_form v_waveHigh_n v_waveBeats_n 100000 l1 l2 x13 0 v_waveMany v_thrown v_waveHigh_a v_waveBeats_a) else (some ((-1), v_waveMany, v_thrown, v_waveHigh_a, v_waveBeats_a)))
def F_X9_frame (p1 : Int32) (p2 : Int32) (v_form : Int32) (v_waveMany : Int32) (v_thrown : Int32) (v_waveHigh_n : Nat) (v_waveHigh_a : Nat → Bool) (v_waveBeats_n : Nat) (v_waveBeats_a : Nat → Int32) : Option (Int32 × Int32 × Int32 × (Nat → Bool) × (Nat → Int32)) := bd (F_X9_bitsOf v_form) (fun u15 => bd (F_X9_hasParity v_form) (fun u16 => bt u16 (F_X9_frame_29 v_form v_waveHigh_n v_waveBeats_n (2 + u15) true p1 p2 v_waveMany 0 v_waveHigh_a v_waveBeats_a) (F_X9_frame_29 v_form v_waveHigh_n v_waveBeats_n (2 + u15) false p1 p2 v_waveMany 0 v_waveHigh_a v_waveBeats_a)))
def wX9_frame (k_waveHigh : ClassId) (k_waveBeats : ClassId) (h_ : Nat) (h_received : Nat) (h_marks : Nat) (h_sending : Nat) (h_waveHigh : Nat) (h_waveBeats : Nat) (h_runHigh : Nat) (h_runBeats : Nat) (v_divisor : Int32) (v_clocks : Int32) (v_wanted : Int32) (v_rowsOn : Bool) (v_level : Int32) (v_form : Int32) (v_outputs : Int32) (v_byteKept : Int32) (v_ins : Int32) (v_changed : Int32) (v_receivedMany : Int32) (v_overrun : Bool) (v_sendingMany : Int32) (v_emptyUp : Bool) (v_lateUp : Bool) (v_lateCount : Int32) (v_lineIn : Bool) (v_sends : Bool) (v_sentCharacter : Int32) (v_sentForm : Int32) (v_sentBeat : Int32) (v_senderHigh : Bool) (v_takes : Bool) (v_sawHigh : Bool) (v_takenForm : Int32) (v_takenBeat : Int32) (v_takenBits : Int32) (v_takenParity : Int32) (v_beats : Int32) (v_out : Bool) (v_runs : Int32) (v_waveHigh_n : Nat) (v_waveBeats_n : Nat) (u : Int32 × Int32 × Int32 × (Nat → Bool) × (Nat → Int32)) : va_W := [oX9 h_ v_divisor v_clocks v_wanted v_rowsOn v_level v_form v_outputs v_byteKept v_ins v_changed h_received h_marks v_receivedMany v_overrun h_sending v_sendingMany v_emptyUp v_lateUp v_lateCount h_waveHigh h_waveBeats u.2.1 v_lineIn v_sends v_sentCharacter v_sentForm v_sentBeat v_senderHigh v_takes v_sawHigh v_takenForm v_takenBeat v_takenBits v_takenParity v_beats v_out h_runHigh h_runBeats v_runs u.2.2.1, aZ h_waveHigh k_waveHigh v_waveHigh_n u.2.2.2.1, aI h_waveBeats k_waveBeats v_waveBeats_n u.2.2.2.2]
set_option maxHeartbeats 4000000 in
set_option maxRecDepth 100000 in
theorem mX9_frame {l : Launch} (D : va_G) (k_waveHigh : ClassId) (k_waveBeats : ClassId) (h_ : Nat) (h_received : Nat) (h_marks : Nat) (h_sending : Nat) (h_waveHigh : Nat) (h_waveBeats : Nat) (h_runHigh : Nat) (h_runBeats : Nat) (v_divisor : Int32) (v_clocks : Int32) (v_wanted : Int32) (v_rowsOn : Bool) (v_level : Int32) (v_form : Int32) (v_outputs : Int32) (v_byteKept : Int32) (v_ins : Int32) (v_changed : Int32) (v_receivedMany : Int32) (v_overrun : Bool) (v_sendingMany : Int32) (v_emptyUp : Bool) (v_lateUp : Bool) (v_lateCount : Int32) (v_waveMany : Int32) (v_lineIn : Bool) (v_sends : Bool) (v_sentCharacter : Int32) (v_sentForm : Int32) (v_sentBeat : Int32) (v_senderHigh : Bool) (v_takes : Bool) (v_sawHigh : Bool) (v_takenForm : Int32) (v_takenBeat : Int32) (v_takenBits : Int32) (v_takenParity : Int32) (v_beats : Int32) (v_out : Bool) (v_runs : Int32) (v_thrown : Int32) (v_waveHigh_n : Nat) (v_waveHigh_a : Nat → Bool) (v_waveBeats_n : Nat) (v_waveBeats_a : Nat → Int32) (p1 : Int32) (p2 : Int32) (u0 : Int32 × Int32 × Int32 × (Nat → Bool) × (Nat → Int32)) (hF : F_X9_frame p1 p2 v_form v_waveMany v_thrown v_waveHigh_n v_waveHigh_a v_waveBeats_n v_waveBeats_a = some u0) : MI l yX9_frame wsX9_frame { frames := 3, cells := 0, slots := 0, locals := 65 } D [(k_waveHigh, .boolean), (k_waveBeats, .int)] [.ref h_, .int p1, .int p2] [oX9 h_ v_divisor v_clocks v_wanted v_rowsOn v_level v_form v_outputs v_byteKept v_ins v_changed h_received h_marks v_receivedMany v_overrun h_sending v_sendingMany v_emptyUp v_lateUp v_lateCount h_waveHigh h_waveBeats v_waveMany v_lineIn v_sends v_sentCharacter v_sentForm v_sentBeat v_senderHigh v_takes v_sawHigh v_takenForm v_takenBeat v_takenBits v_takenParity v_beats v_out h_runHigh h_runBeats v_runs v_thrown, aZ h_waveHigh k_waveHigh v_waveHigh_n v_waveHigh_a, aI h_waveBeats k_waveBeats v_waveBeats_n v_waveBeats_a] (wX9_frame k_waveHigh k_waveBeats h_ h_received h_marks h_sending h_waveHigh h_waveBeats h_runHigh h_runBeats v_divisor v_clocks v_wanted v_rowsOn v_level v_form v_outputs v_byteKept v_ins v_changed v_receivedMany v_overrun v_sendingMany v_emptyUp v_lateUp v_lateCount v_lineIn v_sends v_sentCharacter v_sentForm v_sentBeat v_senderHigh v_takes v_sawHigh v_takenForm v_takenBeat v_takenBits v_takenParity v_beats v_out v_runs v_waveHigh_n v_waveBeats_n u0) (u0.1) := by
  refine MI.ofW (cc := cX9_frame) (maxL := 6) (ret := (some .int)) (lv := [(0, .ref h_), (1, .int p1), (2, .int p2)]) (by decide +kernel) rfl (Nat.le_of_ble_eq_true rfl) rfl ?_
  intro p e s m args below meth c A ls hx hb hr hml hts hown hlocks hA hK hP hD hS hl
  replace hown : s.vm.findClass RX9 = some m.cls := hown
  have i_X9 : ∀ w ∈ wsX90, w ∈ wsX9_frame := by decide +kernel
  have f_19 := hts (.fieldLink RX9 19 "SerialPortModel" "waveHigh" "[Z") (by decide +kernel)
  have f_23 := hts (.fieldLink RX9 23 "SerialPortModel" "waveBeats" "[I") (by decide +kernel)
  have f_35 := hts (.fieldLink RX9 35 "SerialPortModel" "thrown" "I") (by decide +kernel)
  have f_55 := hts (.fieldLink RX9 55 "SerialPortModel" "form" "I") (by decide +kernel)
  have f_88 := hts (.fieldLink RX9 88 "SerialPortModel" "waveMany" "I") (by decide +kernel)
  have hret : ∀ (u : Int32 × Int32 × Int32 × (Nat → Bool) × (Nat → Int32)) (v : Int32) (H : Heap) (locs : List Loc) (pc : Nat) (ls : Array Slot), va_P D vwCl (wX9_frame k_waveHigh k_waveBeats h_ h_received h_marks h_sending h_waveHigh h_waveBeats h_runHigh h_runBeats v_divisor v_clocks v_wanted v_rowsOn v_level v_form v_outputs v_byteKept v_ins v_changed v_receivedMany v_overrun v_sendingMany v_emptyUp v_lateUp v_lateCount v_lineIn v_sends v_sentCharacter v_sentForm v_sentBeat v_senderHigh v_takes v_sawHigh v_takenForm v_takenBeat v_takenBits v_takenParity v_beats v_out v_runs v_waveHigh_n v_waveBeats_n u) H → va_D A (wX9_frame k_waveHigh k_waveBeats h_ h_received h_marks h_sending h_waveHigh h_waveBeats h_runHigh h_runBeats v_divisor v_clocks v_wanted v_rowsOn v_level v_form v_outputs v_byteKept v_ins v_changed v_receivedMany v_overrun v_sendingMany v_emptyUp v_lateUp v_lateCount v_lineIn v_sends v_sentCharacter v_sentForm v_sentBeat v_senderHigh v_takes v_sawHigh v_takenForm v_takenBeat v_takenBits v_takenParity v_beats v_out v_runs v_waveHigh_n v_waveBeats_n u) → va_S A s.heap H locs → some u = some u0 → v = u.1 → decode cX9_frame pc = .ok (.ireturn, 1) → W p l e { frames := 3, cells := 0, slots := 0, locals := 65 } s m args below meth c H locs 0 0 (QI below D [(k_waveHigh, .boolean), (k_waveBeats, .int)] (wX9_frame k_waveHigh k_waveBeats h_ h_received h_marks h_sending h_waveHigh h_waveBeats h_runHigh h_runBeats v_divisor v_clocks v_wanted v_rowsOn v_level v_form v_outputs v_byteKept v_ins v_changed v_receivedMany v_overrun v_sendingMany v_emptyUp v_lateUp v_lateCount v_lineIn v_sends v_sentCharacter v_sentForm v_sentBeat v_senderHigh v_takes v_sawHigh v_takenForm v_takenBeat v_takenBits v_takenParity v_beats v_out v_runs v_waveHigh_n v_waveBeats_n u0) (u0.1) args s A) (F0 m pc ls [.int v]) := fun u v H locs pc ls h1 h2 h3 h4 h5 h6 => rI (wf := wX9_frame k_waveHigh k_waveBeats h_ h_received h_marks h_sending h_waveHigh h_waveBeats h_runHigh h_runBeats v_divisor v_clocks v_wanted v_rowsOn v_level v_form v_outputs v_byteKept v_ins v_changed v_receivedMany v_overrun v_sendingMany v_emptyUp v_lateUp v_lateCount v_lineIn v_sends v_sentCharacter v_sentForm v_sentBeat v_senderHigh v_takes v_sawHigh v_takenForm v_takenBeat v_takenBits v_takenParity v_beats v_out v_runs v_waveHigh_n v_waveBeats_n) (rf := fun u => u.1) hx hb hr hlocks hK h1 h2 h3 h4 h5 h6
  have J48 : ∀ (n : Nat) (l1 : Int32) (l2 : Int32) (l3 : Int32) (l4 : Int32) (v_waveMany : Int32) (v_thrown : Int32) (v_waveHigh_a : Nat → Bool) (v_waveBeats_a : Nat → Int32) (H : Heap) (locs : List Loc) (ls : Array Slot), F_X9_frame_48 v_form v_waveHigh_n v_waveBeats_n n l1 l2 l3 l4 v_waveMany v_thrown v_waveHigh_a v_waveBeats_a = some u0 → lv_has ls 6 [(0, .ref h_), (1, .int l1), (2, .int l2), (3, .int l3), (4, .int l4)] → va_P D vwCl [oX9 h_ v_divisor v_clocks v_wanted v_rowsOn v_level v_form v_outputs v_byteKept v_ins v_changed h_received h_marks v_receivedMany v_overrun h_sending v_sendingMany v_emptyUp v_lateUp v_lateCount h_waveHigh h_waveBeats v_waveMany v_lineIn v_sends v_sentCharacter v_sentForm v_sentBeat v_senderHigh v_takes v_sawHigh v_takenForm v_takenBeat v_takenBits v_takenParity v_beats v_out h_runHigh h_runBeats v_runs v_thrown, aZ h_waveHigh k_waveHigh v_waveHigh_n v_waveHigh_a, aI h_waveBeats k_waveBeats v_waveBeats_n v_waveBeats_a] H → va_D A [oX9 h_ v_divisor v_clocks v_wanted v_rowsOn v_level v_form v_outputs v_byteKept v_ins v_changed h_received h_marks v_receivedMany v_overrun h_sending v_sendingMany v_emptyUp v_lateUp v_lateCount h_waveHigh h_waveBeats v_waveMany v_lineIn v_sends v_sentCharacter v_sentForm v_sentBeat v_senderHigh v_takes v_sawHigh v_takenForm v_takenBeat v_takenBits v_takenParity v_beats v_out h_runHigh h_runBeats v_runs v_thrown, aZ h_waveHigh k_waveHigh v_waveHigh_n v_waveHigh_a, aI h_waveBeats k_waveBeats v_waveBeats_n v_waveBeats_a] → va_S A s.heap H locs → W p l e { frames := 3, cells := 0, slots := 0, locals := 65 } s m args below meth c H locs 0 0 (QI below D [(k_waveHigh, .boolean), (k_waveBeats, .int)] (wX9_frame k_waveHigh k_waveBeats h_ h_received h_marks h_sending h_waveHigh h_waveBeats h_runHigh h_runBeats v_divisor v_clocks v_wanted v_rowsOn v_level v_form v_outputs v_byteKept v_ins v_changed v_receivedMany v_overrun v_sendingMany v_emptyUp v_lateUp v_lateCount v_lineIn v_sends v_sentCharacter v_sentForm v_sentBeat v_senderHigh v_takes v_sawHigh v_takenForm v_takenBeat v_takenBits v_takenParity v_beats v_out v_runs v_waveHigh_n v_waveBeats_n u0) (u0.1) args s A) (F0 m 48 ls []) := by
    intro n
    induction n with
    | zero =>
      intro l1 l2 l3 l4 v_waveMany v_thrown v_waveHigh_a v_waveBeats_a H locs ls hF hl hP hD hS
      have hF : (none : Option (Int32 × Int32 × Int32 × (Nat → Bool) × (Nat → Int32))) = some u0 := hF
      cases hF
    | succ n ih =>
      have J140 : ∀ (s1 : Int32) (s2 : Int32) (l1 : Int32) (l2 : Int32) (l3 : Int32) (l4 : Int32) (v_waveMany : Int32) (v_thrown : Int32) (v_waveHigh_a : Nat → Bool) (v_waveBeats_a : Nat → Int32) (H : Heap) (locs : List Loc) (ls : Array Slot), F_X9_frame_140 (F_X9_frame_48 v_form v_waveHigh_n v_waveBeats_n n) v_form v_waveHigh_n v_waveBeats_n s1 s2 l1 l2 l3 l4 v_waveMany v_thrown v_waveHigh_a v_waveBeats_a = some u0 → lv_has ls 6 [(0, .ref h_), (1, .int l1), (2, .int l2), (3, .int l3), (4, .int l4)] → va_P D vwCl [oX9 h_ v_divisor v_clocks v_wanted v_rowsOn v_level v_form v_outputs v_byteKept v_ins v_changed h_received h_marks v_receivedMany v_overrun h_sending v_sendingMany v_emptyUp v_lateUp v_lateCount h_waveHigh h_waveBeats v_waveMany v_lineIn v_sends v_sentCharacter v_sentForm v_sentBeat v_senderHigh v_takes v_sawHigh v_takenForm v_takenBeat v_takenBits v_takenParity v_beats v_out h_runHigh h_runBeats v_runs v_thrown, aZ h_waveHigh k_waveHigh v_waveHigh_n v_waveHigh_a, aI h_waveBeats k_waveBeats v_waveBeats_n v_waveBeats_a] H → va_D A [oX9 h_ v_divisor v_clocks v_wanted v_rowsOn v_level v_form v_outputs v_byteKept v_ins v_changed h_received h_marks v_receivedMany v_overrun h_sending v_sendingMany v_emptyUp v_lateUp v_lateCount h_waveHigh h_waveBeats v_waveMany v_lineIn v_sends v_sentCharacter v_sentForm v_sentBeat v_senderHigh v_takes v_sawHigh v_takenForm v_takenBeat v_takenBits v_takenParity v_beats v_out h_runHigh h_runBeats v_runs v_thrown, aZ h_waveHigh k_waveHigh v_waveHigh_n v_waveHigh_a, aI h_waveBeats k_waveBeats v_waveBeats_n v_waveBeats_a] → va_S A s.heap H locs → W p l e { frames := 3, cells := 0, slots := 0, locals := 65 } s m args below meth c H locs 0 0 (QI below D [(k_waveHigh, .boolean), (k_waveBeats, .int)] (wX9_frame k_waveHigh k_waveBeats h_ h_received h_marks h_sending h_waveHigh h_waveBeats h_runHigh h_runBeats v_divisor v_clocks v_wanted v_rowsOn v_level v_form v_outputs v_byteKept v_ins v_changed v_receivedMany v_overrun v_sendingMany v_emptyUp v_lateUp v_lateCount v_lineIn v_sends v_sentCharacter v_sentForm v_sentBeat v_senderHigh v_takes v_sawHigh v_takenForm v_takenBeat v_takenBits v_takenParity v_beats v_out v_runs v_waveHigh_n v_waveBeats_n u0) (u0.1) args s A) (F0 m 140 ls [.int s2, .int s1, .ref h_waveBeats]) := by
        intro s1 s2 l1 l2 l3 l4 v_waveMany v_thrown v_waveHigh_a v_waveBeats_a H locs ls hF hl hP hD hS
        unfold F_X9_frame_140 at hF
        obtain ⟨g1, hF⟩ := gd_el hF
        refine ias (ws' := [oX9 h_ v_divisor v_clocks v_wanted v_rowsOn v_level v_form v_outputs v_byteKept v_ins v_changed h_received h_marks v_receivedMany v_overrun h_sending v_sendingMany v_emptyUp v_lateUp v_lateCount h_waveHigh h_waveBeats v_waveMany v_lineIn v_sends v_sentCharacter v_sentForm v_sentBeat v_senderHigh v_takes v_sawHigh v_takenForm v_takenBeat v_takenBits v_takenParity v_beats v_out h_runHigh h_runBeats v_runs v_thrown, aZ h_waveHigh k_waveHigh v_waveHigh_n v_waveHigh_a, aI h_waveBeats k_waveBeats v_waveBeats_n (upd v_waveBeats_a (s1.toNatClampNeg) s2)]) hx hb hK hP hD hS 2 1 rfl rfl g1 rfl dX9_frame_140 (fun H locs hP hD hS => ?_)
        refine lv_aload_n hx hb dX9_frame_141 rfl (lv_at hl 0 rfl) ?_
        refine lv_dup hx hb dX9_frame_142 rfl ?_
        refine va_get (D := D) (ci := 8) (v := .int v_waveMany) (C := RX9) (T := TX9) (N := 40) hx hb hts i_X9 hown hK hP 0 rfl rfl 21 (Nat.le_of_ble_eq_true rfl) f_88 (fun _ h9 => h9) rfl dX9_frame_143 ?_
        refine lv_iconst (v := 1) hx hb dX9_frame_146 (by decide) ?_
        refine lv_iadd hx hb dX9_frame_147 ?_
        refine lv_topi (fun x2 ex2 => ?_)
        replace hF := lt1_x ex2 hF
        refine pf (ci := 8) (v := .int x2) (ty := .int) (C := RX9) (T := TX9) (N := 40) (ws' := [oX9 h_ v_divisor v_clocks v_wanted v_rowsOn v_level v_form v_outputs v_byteKept v_ins v_changed h_received h_marks v_receivedMany v_overrun h_sending v_sendingMany v_emptyUp v_lateUp v_lateCount h_waveHigh h_waveBeats x2 v_lineIn v_sends v_sentCharacter v_sentForm v_sentBeat v_senderHigh v_takes v_sawHigh v_takenForm v_takenBeat v_takenBits v_takenParity v_beats v_out h_runHigh h_runBeats v_runs v_thrown, aZ h_waveHigh k_waveHigh v_waveHigh_n v_waveHigh_a, aI h_waveBeats k_waveBeats v_waveBeats_n (upd v_waveBeats_a (s1.toNatClampNeg) s2)]) hx hb hts i_X9 tyX9_ok nmX9 hown hK hP hD hS 0 rfl rfl 21 (Nat.le_of_ble_eq_true rfl) f_88 rfl rfl (by decide +kernel) rfl rfl (Nat.le_of_ble_eq_true rfl) rfl dX9_frame_148 (fun H locs hP hD hS => ?_)
        obtain ⟨x3, ex3⟩ : ∃ y : Int32, y = l4 + 1 := ⟨_, rfl⟩
        replace hF := lt1_x ex3 hF
        refine lv_iinc (v := x3) (lv' := [(4, .int x3), (0, .ref h_), (1, .int l1), (2, .int l2), (3, .int l3)]) hx hb dX9_frame_151 hl (k := 4) rfl (by rw [ex3]; rfl) (Nat.le_of_ble_eq_true rfl) rfl (fun ls hl => ?_)
        refine lv_goto (tgt := 48) hx hb dX9_frame_154 (by decide) ?_
        exact ih l1 l2 l3 x3 x2 v_thrown v_waveHigh_a (upd v_waveBeats_a (s1.toNatClampNeg) s2) _ _ _ hF (lv_sub hl [1, 2, 3, 4, 0] rfl) hP hD hS
      have J111 : ∀ (s1 : Int32) (s2 : Bool) (l1 : Int32) (l2 : Int32) (l3 : Int32) (l4 : Int32) (v_waveMany : Int32) (v_thrown : Int32) (v_waveHigh_a : Nat → Bool) (v_waveBeats_a : Nat → Int32) (H : Heap) (locs : List Loc) (ls : Array Slot), F_X9_frame_111 (F_X9_frame_48 v_form v_waveHigh_n v_waveBeats_n n) v_form v_waveHigh_n v_waveBeats_n s1 s2 l1 l2 l3 l4 v_waveMany v_thrown v_waveHigh_a v_waveBeats_a = some u0 → lv_has ls 6 [(0, .ref h_), (1, .int l1), (2, .int l2), (3, .int l3), (4, .int l4)] → va_P D vwCl [oX9 h_ v_divisor v_clocks v_wanted v_rowsOn v_level v_form v_outputs v_byteKept v_ins v_changed h_received h_marks v_receivedMany v_overrun h_sending v_sendingMany v_emptyUp v_lateUp v_lateCount h_waveHigh h_waveBeats v_waveMany v_lineIn v_sends v_sentCharacter v_sentForm v_sentBeat v_senderHigh v_takes v_sawHigh v_takenForm v_takenBeat v_takenBits v_takenParity v_beats v_out h_runHigh h_runBeats v_runs v_thrown, aZ h_waveHigh k_waveHigh v_waveHigh_n v_waveHigh_a, aI h_waveBeats k_waveBeats v_waveBeats_n v_waveBeats_a] H → va_D A [oX9 h_ v_divisor v_clocks v_wanted v_rowsOn v_level v_form v_outputs v_byteKept v_ins v_changed h_received h_marks v_receivedMany v_overrun h_sending v_sendingMany v_emptyUp v_lateUp v_lateCount h_waveHigh h_waveBeats v_waveMany v_lineIn v_sends v_sentCharacter v_sentForm v_sentBeat v_senderHigh v_takes v_sawHigh v_takenForm v_takenBeat v_takenBits v_takenParity v_beats v_out h_runHigh h_runBeats v_runs v_thrown, aZ h_waveHigh k_waveHigh v_waveHigh_n v_waveHigh_a, aI h_waveBeats k_waveBeats v_waveBeats_n v_waveBeats_a] → va_S A s.heap H locs → W p l e { frames := 3, cells := 0, slots := 0, locals := 65 } s m args below meth c H locs 0 0 (QI below D [(k_waveHigh, .boolean), (k_waveBeats, .int)] (wX9_frame k_waveHigh k_waveBeats h_ h_received h_marks h_sending h_waveHigh h_waveBeats h_runHigh h_runBeats v_divisor v_clocks v_wanted v_rowsOn v_level v_form v_outputs v_byteKept v_ins v_changed v_receivedMany v_overrun v_sendingMany v_emptyUp v_lateUp v_lateCount v_lineIn v_sends v_sentCharacter v_sentForm v_sentBeat v_senderHigh v_takes v_sawHigh v_takenForm v_takenBeat v_takenBits v_takenParity v_beats v_out v_runs v_waveHigh_n v_waveBeats_n u0) (u0.1) args s A) (F0 m 111 ls [.int (bI s2), .int s1, .ref h_waveHigh]) := by
        intro s1 s2 l1 l2 l3 l4 v_waveMany v_thrown v_waveHigh_a v_waveBeats_a H locs ls hF hl hP hD hS
        unfold F_X9_frame_111 at hF
        obtain ⟨g4, hF⟩ := gd_el hF
        refine zas (x := s2) (ws' := [oX9 h_ v_divisor v_clocks v_wanted v_rowsOn v_level v_form v_outputs v_byteKept v_ins v_changed h_received h_marks v_receivedMany v_overrun h_sending v_sendingMany v_emptyUp v_lateUp v_lateCount h_waveHigh h_waveBeats v_waveMany v_lineIn v_sends v_sentCharacter v_sentForm v_sentBeat v_senderHigh v_takes v_sawHigh v_takenForm v_takenBeat v_takenBits v_takenParity v_beats v_out h_runHigh h_runBeats v_runs v_thrown, aZ h_waveHigh k_waveHigh v_waveHigh_n (va_up v_waveHigh_a (s1.toNatClampNeg) s2), aI h_waveBeats k_waveBeats v_waveBeats_n v_waveBeats_a]) hx hb hK hP hD hS 1 0 rfl rfl rfl g4 rfl dX9_frame_111 (fun H locs hP hD hS => ?_)
        refine lv_aload_n hx hb dX9_frame_112 rfl (lv_at hl 0 rfl) ?_
        refine va_get (D := D) (ci := 8) (v := .ref h_waveBeats) (C := RX9) (T := TX9) (N := 40) hx hb hts i_X9 hown hK hP 0 rfl rfl 20 (Nat.le_of_ble_eq_true rfl) f_23 (fun _ h9 => h9) rfl dX9_frame_113 ?_
        refine lv_aload_n hx hb dX9_frame_116 rfl (lv_at hl 0 rfl) ?_
        refine va_get (D := D) (ci := 8) (v := .int v_waveMany) (C := RX9) (T := TX9) (N := 40) hx hb hts i_X9 hown hK hP 0 rfl rfl 21 (Nat.le_of_ble_eq_true rfl) f_88 (fun _ h9 => h9) rfl dX9_frame_117 ?_
        refine lv_iload hx hb dX9_frame_120 (lv_at hl 4 rfl) ?_
        refine lv_iload_n hx hb dX9_frame_122 rfl (lv_at hl 3 rfl) ?_
        refine lv_iconst (v := 1) hx hb dX9_frame_123 (by decide) ?_
        refine lv_isub hx hb dX9_frame_124 ?_
        refine lv_icmp_ne (tgt := 138) hx hb dX9_frame_125 (by decide) (fun c5 => ?_) (fun c5 => ?_)
        · replace hF := it_f c5 hF
          refine lv_bipush (v := 16) hx hb dX9_frame_138 (by decide) ?_
          exact J140 v_waveMany 16 l1 l2 l3 l4 v_waveMany v_thrown (va_up v_waveHigh_a (s1.toNatClampNeg) s2) v_waveBeats_a _ _ _ hF hl hP hD hS
        · replace hF := it_t c5 hF
          refine lv_aload_n hx hb dX9_frame_128 rfl (lv_at hl 0 rfl) ?_
          refine va_get (D := D) (ci := 8) (v := .int v_form) (C := RX9) (T := TX9) (N := 40) hx hb hts i_X9 hown hK hP 0 rfl rfl 5 (Nat.le_of_ble_eq_true rfl) f_55 (fun _ h9 => h9) rfl dX9_frame_129 ?_
          obtain ⟨u6, hu6, hF⟩ := bd_el hF
          refine cSI (As := [.int v_form]) (rest := [.int v_waveMany, .ref h_waveBeats]) (wr := [oX9 h_ v_divisor v_clocks v_wanted v_rowsOn v_level v_form v_outputs v_byteKept v_ins v_changed h_received h_marks v_receivedMany v_overrun h_sending v_sendingMany v_emptyUp v_lateUp v_lateCount h_waveHigh h_waveBeats v_waveMany v_lineIn v_sends v_sentCharacter v_sentForm v_sentBeat v_senderHigh v_takes v_sawHigh v_takenForm v_takenBeat v_takenBits v_takenParity v_beats v_out h_runHigh h_runBeats v_runs v_thrown, aZ h_waveHigh k_waveHigh v_waveHigh_n (va_up v_waveHigh_a (s1.toNatClampNeg) s2), aI h_waveBeats k_waveBeats v_waveBeats_n v_waveBeats_a]) (ws' := [oX9 h_ v_divisor v_clocks v_wanted v_rowsOn v_level v_form v_outputs v_byteKept v_ins v_changed h_received h_marks v_receivedMany v_overrun h_sending v_sendingMany v_emptyUp v_lateUp v_lateCount h_waveHigh h_waveBeats v_waveMany v_lineIn v_sends v_sentCharacter v_sentForm v_sentBeat v_senderHigh v_takes v_sawHigh v_takenForm v_takenBeat v_takenBits v_takenParity v_beats v_out h_runHigh h_runBeats v_runs v_thrown, aZ h_waveHigh k_waveHigh v_waveHigh_n (va_up v_waveHigh_a (s1.toNatClampNeg) s2), aI h_waveBeats k_waveBeats v_waveBeats_n v_waveBeats_a]) (rv := u6) ⟨hx, hb, hml, hown, hts⟩ (mX9_stopOf D v_form u6 hu6) (va_cwS 1 hts gX9_frame_X9_stopOf rfl rfl rfl (by decide +kernel) ⟨Nat.le_of_ble_eq_true rfl, Nat.le_of_ble_eq_true rfl⟩) hK hP hD hS hA [] [] [0, 1, 2] [0, 1, 2] rfl rfl rfl rfl rfl rfl hl.1 rfl (Nat.le_of_ble_eq_true rfl) rfl dX9_frame_132 ⟨Nat.le_refl _, Nat.le_refl _⟩ (fun H locs hP hD hS => ?_)
          refine lv_goto (tgt := 140) hx hb dX9_frame_135 (by decide) ?_
          exact J140 v_waveMany u6 l1 l2 l3 l4 v_waveMany v_thrown (va_up v_waveHigh_a (s1.toNatClampNeg) s2) v_waveBeats_a _ _ _ hF hl hP hD hS
      have J103 : ∀ (s1 : Int32) (s2 : Bool) (s3 : Bool) (l1 : Int32) (l2 : Int32) (l3 : Int32) (l4 : Int32) (v_waveMany : Int32) (v_thrown : Int32) (v_waveHigh_a : Nat → Bool) (v_waveBeats_a : Nat → Int32) (H : Heap) (locs : List Loc) (ls : Array Slot), F_X9_frame_103 (F_X9_frame_48 v_form v_waveHigh_n v_waveBeats_n n) v_form v_waveHigh_n v_waveBeats_n s1 s2 s3 l1 l2 l3 l4 v_waveMany v_thrown v_waveHigh_a v_waveBeats_a = some u0 → lv_has ls 6 [(0, .ref h_), (1, .int l1), (2, .int l2), (3, .int l3), (4, .int l4)] → va_P D vwCl [oX9 h_ v_divisor v_clocks v_wanted v_rowsOn v_level v_form v_outputs v_byteKept v_ins v_changed h_received h_marks v_receivedMany v_overrun h_sending v_sendingMany v_emptyUp v_lateUp v_lateCount h_waveHigh h_waveBeats v_waveMany v_lineIn v_sends v_sentCharacter v_sentForm v_sentBeat v_senderHigh v_takes v_sawHigh v_takenForm v_takenBeat v_takenBits v_takenParity v_beats v_out h_runHigh h_runBeats v_runs v_thrown, aZ h_waveHigh k_waveHigh v_waveHigh_n v_waveHigh_a, aI h_waveBeats k_waveBeats v_waveBeats_n v_waveBeats_a] H → va_D A [oX9 h_ v_divisor v_clocks v_wanted v_rowsOn v_level v_form v_outputs v_byteKept v_ins v_changed h_received h_marks v_receivedMany v_overrun h_sending v_sendingMany v_emptyUp v_lateUp v_lateCount h_waveHigh h_waveBeats v_waveMany v_lineIn v_sends v_sentCharacter v_sentForm v_sentBeat v_senderHigh v_takes v_sawHigh v_takenForm v_takenBeat v_takenBits v_takenParity v_beats v_out h_runHigh h_runBeats v_runs v_thrown, aZ h_waveHigh k_waveHigh v_waveHigh_n v_waveHigh_a, aI h_waveBeats k_waveBeats v_waveBeats_n v_waveBeats_a] → va_S A s.heap H locs → W p l e { frames := 3, cells := 0, slots := 0, locals := 65 } s m args below meth c H locs 0 0 (QI below D [(k_waveHigh, .boolean), (k_waveBeats, .int)] (wX9_frame k_waveHigh k_waveBeats h_ h_received h_marks h_sending h_waveHigh h_waveBeats h_runHigh h_runBeats v_divisor v_clocks v_wanted v_rowsOn v_level v_form v_outputs v_byteKept v_ins v_changed v_receivedMany v_overrun v_sendingMany v_emptyUp v_lateUp v_lateCount v_lineIn v_sends v_sentCharacter v_sentForm v_sentBeat v_senderHigh v_takes v_sawHigh v_takenForm v_takenBeat v_takenBits v_takenParity v_beats v_out v_runs v_waveHigh_n v_waveBeats_n u0) (u0.1) args s A) (F0 m 103 ls [.int (bI s3), .int (bI s2), .int s1, .ref h_waveHigh]) := by
        intro s1 s2 s3 l1 l2 l3 l4 v_waveMany v_thrown v_waveHigh_a v_waveBeats_a H locs ls hF hl hP hD hS
        unfold F_X9_frame_103 at hF
        refine lv_icmp_eq (tgt := 110) hx hb dX9_frame_103 (by decide) (fun c7 => ?_) (fun c7 => ?_)
        · replace hF := it_t c7 hF
          refine lv_iconst (v := 0) hx hb dX9_frame_110 (by decide) ?_
          exact J111 s1 false l1 l2 l3 l4 v_waveMany v_thrown v_waveHigh_a v_waveBeats_a _ _ _ hF hl hP hD hS
        · replace hF := it_f c7 hF
          refine lv_iconst (v := 1) hx hb dX9_frame_106 (by decide) ?_
          refine lv_goto (tgt := 111) hx hb dX9_frame_107 (by decide) ?_
          exact J111 s1 true l1 l2 l3 l4 v_waveMany v_thrown v_waveHigh_a v_waveBeats_a _ _ _ hF hl hP hD hS
      have J80 : ∀ (s0 : Bool) (l1 : Int32) (l2 : Int32) (l3 : Int32) (l4 : Int32) (v_waveMany : Int32) (v_thrown : Int32) (v_waveHigh_a : Nat → Bool) (v_waveBeats_a : Nat → Int32) (H : Heap) (locs : List Loc) (ls : Array Slot), F_X9_frame_80 (F_X9_frame_48 v_form v_waveHigh_n v_waveBeats_n n) v_form v_waveHigh_n v_waveBeats_n s0 l1 l2 l3 l4 v_waveMany v_thrown v_waveHigh_a v_waveBeats_a = some u0 → lv_has ls 6 [(0, .ref h_), (1, .int l1), (2, .int l2), (3, .int l3), (4, .int l4)] → va_P D vwCl [oX9 h_ v_divisor v_clocks v_wanted v_rowsOn v_level v_form v_outputs v_byteKept v_ins v_changed h_received h_marks v_receivedMany v_overrun h_sending v_sendingMany v_emptyUp v_lateUp v_lateCount h_waveHigh h_waveBeats v_waveMany v_lineIn v_sends v_sentCharacter v_sentForm v_sentBeat v_senderHigh v_takes v_sawHigh v_takenForm v_takenBeat v_takenBits v_takenParity v_beats v_out h_runHigh h_runBeats v_runs v_thrown, aZ h_waveHigh k_waveHigh v_waveHigh_n v_waveHigh_a, aI h_waveBeats k_waveBeats v_waveBeats_n v_waveBeats_a] H → va_D A [oX9 h_ v_divisor v_clocks v_wanted v_rowsOn v_level v_form v_outputs v_byteKept v_ins v_changed h_received h_marks v_receivedMany v_overrun h_sending v_sendingMany v_emptyUp v_lateUp v_lateCount h_waveHigh h_waveBeats v_waveMany v_lineIn v_sends v_sentCharacter v_sentForm v_sentBeat v_senderHigh v_takes v_sawHigh v_takenForm v_takenBeat v_takenBits v_takenParity v_beats v_out h_runHigh h_runBeats v_runs v_thrown, aZ h_waveHigh k_waveHigh v_waveHigh_n v_waveHigh_a, aI h_waveBeats k_waveBeats v_waveBeats_n v_waveBeats_a] → va_S A s.heap H locs → W p l e { frames := 3, cells := 0, slots := 0, locals := 65 } s m args below meth c H locs 0 0 (QI below D [(k_waveHigh, .boolean), (k_waveBeats, .int)] (wX9_frame k_waveHigh k_waveBeats h_ h_received h_marks h_sending h_waveHigh h_waveBeats h_runHigh h_runBeats v_divisor v_clocks v_wanted v_rowsOn v_level v_form v_outputs v_byteKept v_ins v_changed v_receivedMany v_overrun v_sendingMany v_emptyUp v_lateUp v_lateCount v_lineIn v_sends v_sentCharacter v_sentForm v_sentBeat v_senderHigh v_takes v_sawHigh v_takenForm v_takenBeat v_takenBits v_takenParity v_beats v_out v_runs v_waveHigh_n v_waveBeats_n u0) (u0.1) args s A) (F0 m 80 ls [.int (bI s0)]) := by
        intro s0 l1 l2 l3 l4 v_waveMany v_thrown v_waveHigh_a v_waveBeats_a H locs ls hF hl hP hD hS
        unfold F_X9_frame_80 at hF
        refine lv_istore (lv' := [(5, .int (bI s0)), (0, .ref h_), (1, .int l1), (2, .int l2), (3, .int l3), (4, .int l4)]) hx hb dX9_frame_80 hl (Nat.le_of_ble_eq_true rfl) rfl (fun ls hl => ?_)
        refine lv_aload_n hx hb dX9_frame_82 rfl (lv_at hl 1 rfl) ?_
        refine va_get (D := D) (ci := 8) (v := .ref h_waveHigh) (C := RX9) (T := TX9) (N := 40) hx hb hts i_X9 hown hK hP 0 rfl rfl 19 (Nat.le_of_ble_eq_true rfl) f_19 (fun _ h9 => h9) rfl dX9_frame_83 ?_
        refine lv_aload_n hx hb dX9_frame_86 rfl (lv_at hl 1 rfl) ?_
        refine va_get (D := D) (ci := 8) (v := .int v_waveMany) (C := RX9) (T := TX9) (N := 40) hx hb hts i_X9 hown hK hP 0 rfl rfl 21 (Nat.le_of_ble_eq_true rfl) f_88 (fun _ h9 => h9) rfl dX9_frame_87 ?_
        refine lv_iload hx hb dX9_frame_90 (lv_at hl 0 rfl) ?_
        refine lv_iload hx hb dX9_frame_92 (lv_at hl 5 rfl) ?_
        refine lv_iload_n hx hb dX9_frame_94 rfl (lv_at hl 3 rfl) ?_
        refine lv_icmp_ne (tgt := 102) hx hb dX9_frame_95 (by decide) (fun c8 => ?_) (fun c8 => ?_)
        · replace hF := it_f c8 hF
          refine lv_iconst (v := 0) hx hb dX9_frame_102 (by decide) ?_
          exact J103 v_waveMany s0 false l1 l2 l3 l4 v_waveMany v_thrown v_waveHigh_a v_waveBeats_a _ _ _ hF (lv_sub hl [1, 2, 3, 4, 5] rfl) hP hD hS
        · replace hF := it_t c8 hF
          refine lv_iconst (v := 1) hx hb dX9_frame_98 (by decide) ?_
          refine lv_goto (tgt := 103) hx hb dX9_frame_99 (by decide) ?_
          exact J103 v_waveMany s0 true l1 l2 l3 l4 v_waveMany v_thrown v_waveHigh_a v_waveBeats_a _ _ _ hF (lv_sub hl [1, 2, 3, 4, 5] rfl) hP hD hS
      intro l1 l2 l3 l4 v_waveMany v_thrown v_waveHigh_a v_waveBeats_a H locs ls hF hl hP hD hS
      replace hF : F_X9_frame_48_s (F_X9_frame_48 v_form v_waveHigh_n v_waveBeats_n n) v_form v_waveHigh_n v_waveBeats_n l1 l2 l3 l4 v_waveMany v_thrown v_waveHigh_a v_waveBeats_a = some u0 := hF
      unfold F_X9_frame_48_s at hF
      refine lv_iload hx hb dX9_frame_48 (lv_at hl 4 rfl) ?_
      refine lv_iload_n hx hb dX9_frame_50 rfl (lv_at hl 3 rfl) ?_
      refine lv_icmp_ge (tgt := 157) hx hb dX9_frame_51 (by decide) (fun c9 => ?_) (fun c9 => ?_)
      · replace hF := it_t c9 hF
        refine lv_iload_n hx hb dX9_frame_157 rfl (lv_at hl 3 rfl) ?_
        exact hret (l3, v_waveMany, v_thrown, v_waveHigh_a, v_waveBeats_a) l3 _ _ 158 _ hP hD hS hF rfl dX9_frame_158
      · replace hF := it_f c9 hF
        refine lv_iload hx hb dX9_frame_54 (lv_at hl 4 rfl) ?_
        refine lv_iload_n hx hb dX9_frame_56 rfl (lv_at hl 3 rfl) ?_
        refine lv_iconst (v := 1) hx hb dX9_frame_57 (by decide) ?_
        refine lv_isub hx hb dX9_frame_58 ?_
        refine lv_icmp_eq (tgt := 75) hx hb dX9_frame_59 (by decide) (fun c10 => ?_) (fun c10 => ?_)
        · replace hF := it_t c10 hF
          refine lv_iconst (v := 1) hx hb dX9_frame_75 (by decide) ?_
          refine lv_goto (tgt := 80) hx hb dX9_frame_76 (by decide) ?_
          exact J80 true l1 l2 l3 l4 v_waveMany v_thrown v_waveHigh_a v_waveBeats_a _ _ _ hF hl hP hD hS
        · replace hF := it_f c10 hF
          refine lv_aload_n hx hb dX9_frame_62 rfl (lv_at hl 0 rfl) ?_
          refine va_get (D := D) (ci := 8) (v := .int v_form) (C := RX9) (T := TX9) (N := 40) hx hb hts i_X9 hown hK hP 0 rfl rfl 5 (Nat.le_of_ble_eq_true rfl) f_55 (fun _ h9 => h9) rfl dX9_frame_63 ?_
          refine lv_iload_n hx hb dX9_frame_66 rfl (lv_at hl 1 rfl) ?_
          refine lv_iload hx hb dX9_frame_67 (lv_at hl 4 rfl) ?_
          obtain ⟨u11, hu11, hF⟩ := bd_el hF
          refine cSI (As := [.int v_form, .int l1, .int l4]) (rest := []) (wr := [oX9 h_ v_divisor v_clocks v_wanted v_rowsOn v_level v_form v_outputs v_byteKept v_ins v_changed h_received h_marks v_receivedMany v_overrun h_sending v_sendingMany v_emptyUp v_lateUp v_lateCount h_waveHigh h_waveBeats v_waveMany v_lineIn v_sends v_sentCharacter v_sentForm v_sentBeat v_senderHigh v_takes v_sawHigh v_takenForm v_takenBeat v_takenBits v_takenParity v_beats v_out h_runHigh h_runBeats v_runs v_thrown, aZ h_waveHigh k_waveHigh v_waveHigh_n v_waveHigh_a, aI h_waveBeats k_waveBeats v_waveBeats_n v_waveBeats_a]) (ws' := [oX9 h_ v_divisor v_clocks v_wanted v_rowsOn v_level v_form v_outputs v_byteKept v_ins v_changed h_received h_marks v_receivedMany v_overrun h_sending v_sendingMany v_emptyUp v_lateUp v_lateCount h_waveHigh h_waveBeats v_waveMany v_lineIn v_sends v_sentCharacter v_sentForm v_sentBeat v_senderHigh v_takes v_sawHigh v_takenForm v_takenBeat v_takenBits v_takenParity v_beats v_out h_runHigh h_runBeats v_runs v_thrown, aZ h_waveHigh k_waveHigh v_waveHigh_n v_waveHigh_a, aI h_waveBeats k_waveBeats v_waveBeats_n v_waveBeats_a]) (rv := bI u11) ⟨hx, hb, hml, hown, hts⟩ (mX9_partOf D v_form l1 l4 u11 hu11) (va_cwS 3 hts gX9_frame_X9_partOf rfl rfl rfl (by decide +kernel) ⟨Nat.le_of_ble_eq_true rfl, Nat.le_of_ble_eq_true rfl⟩) hK hP hD hS hA [] [] [0, 1, 2] [0, 1, 2] rfl rfl rfl rfl rfl rfl hl.1 rfl (Nat.le_of_ble_eq_true rfl) rfl dX9_frame_69 ⟨Nat.le_refl _, Nat.le_refl _⟩ (fun H locs hP hD hS => ?_)
          refine lv_if_eq (tgt := 79) hx hb dX9_frame_72 (by decide) (fun c12 => ?_) (fun c12 => ?_)
          · replace hF := bt_f (bI_0 c12) hF
            refine lv_iconst (v := 0) hx hb dX9_frame_79 (by decide) ?_
            exact J80 false l1 l2 l3 l4 v_waveMany v_thrown v_waveHigh_a v_waveBeats_a _ _ _ hF hl hP hD hS
          · replace hF := bt_t (bI_n0 c12) hF
            refine lv_iconst (v := 1) hx hb dX9_frame_75 (by decide) ?_
            refine lv_goto (tgt := 80) hx hb dX9_frame_76 (by decide) ?_
            exact J80 true l1 l2 l3 l4 v_waveMany v_thrown v_waveHigh_a v_waveBeats_a _ _ _ hF hl hP hD hS
  have J29 : ∀ (s0 : Int32) (s1 : Bool) (l1 : Int32) (l2 : Int32) (v_waveMany : Int32) (v_thrown : Int32) (v_waveHigh_a : Nat → Bool) (v_waveBeats_a : Nat → Int32) (H : Heap) (locs : List Loc) (ls : Array Slot), F_X9_frame_29 v_form v_waveHigh_n v_waveBeats_n s0 s1 l1 l2 v_waveMany v_thrown v_waveHigh_a v_waveBeats_a = some u0 → lv_has ls 6 [(0, .ref h_), (1, .int l1), (2, .int l2)] → va_P D vwCl [oX9 h_ v_divisor v_clocks v_wanted v_rowsOn v_level v_form v_outputs v_byteKept v_ins v_changed h_received h_marks v_receivedMany v_overrun h_sending v_sendingMany v_emptyUp v_lateUp v_lateCount h_waveHigh h_waveBeats v_waveMany v_lineIn v_sends v_sentCharacter v_sentForm v_sentBeat v_senderHigh v_takes v_sawHigh v_takenForm v_takenBeat v_takenBits v_takenParity v_beats v_out h_runHigh h_runBeats v_runs v_thrown, aZ h_waveHigh k_waveHigh v_waveHigh_n v_waveHigh_a, aI h_waveBeats k_waveBeats v_waveBeats_n v_waveBeats_a] H → va_D A [oX9 h_ v_divisor v_clocks v_wanted v_rowsOn v_level v_form v_outputs v_byteKept v_ins v_changed h_received h_marks v_receivedMany v_overrun h_sending v_sendingMany v_emptyUp v_lateUp v_lateCount h_waveHigh h_waveBeats v_waveMany v_lineIn v_sends v_sentCharacter v_sentForm v_sentBeat v_senderHigh v_takes v_sawHigh v_takenForm v_takenBeat v_takenBits v_takenParity v_beats v_out h_runHigh h_runBeats v_runs v_thrown, aZ h_waveHigh k_waveHigh v_waveHigh_n v_waveHigh_a, aI h_waveBeats k_waveBeats v_waveBeats_n v_waveBeats_a] → va_S A s.heap H locs → W p l e { frames := 3, cells := 0, slots := 0, locals := 65 } s m args below meth c H locs 0 0 (QI below D [(k_waveHigh, .boolean), (k_waveBeats, .int)] (wX9_frame k_waveHigh k_waveBeats h_ h_received h_marks h_sending h_waveHigh h_waveBeats h_runHigh h_runBeats v_divisor v_clocks v_wanted v_rowsOn v_level v_form v_outputs v_byteKept v_ins v_changed v_receivedMany v_overrun v_sendingMany v_emptyUp v_lateUp v_lateCount v_lineIn v_sends v_sentCharacter v_sentForm v_sentBeat v_senderHigh v_takes v_sawHigh v_takenForm v_takenBeat v_takenBits v_takenParity v_beats v_out v_runs v_waveHigh_n v_waveBeats_n u0) (u0.1) args s A) (F0 m 29 ls [.int (bI s1), .int s0]) := by
    intro s0 s1 l1 l2 v_waveMany v_thrown v_waveHigh_a v_waveBeats_a H locs ls hF hl hP hD hS
    unfold F_X9_frame_29 at hF
    refine lv_iadd hx hb dX9_frame_29 ?_
    refine lv_topi (fun x13 ex13 => ?_)
    replace hF := lt1_x ex13 hF
    refine lv_istore_n (lv' := [(3, .int x13), (0, .ref h_), (1, .int l1), (2, .int l2)]) hx hb dX9_frame_30 rfl hl (Nat.le_of_ble_eq_true rfl) rfl (fun ls hl => ?_)
    refine lv_aload_n hx hb dX9_frame_31 rfl (lv_at hl 1 rfl) ?_
    refine va_get (D := D) (ci := 8) (v := .int v_waveMany) (C := RX9) (T := TX9) (N := 40) hx hb hts i_X9 hown hK hP 0 rfl rfl 21 (Nat.le_of_ble_eq_true rfl) f_88 (fun _ h9 => h9) rfl dX9_frame_32 ?_
    refine lv_iload_n hx hb dX9_frame_35 rfl (lv_at hl 0 rfl) ?_
    refine lv_iadd hx hb dX9_frame_36 ?_
    refine lv_sipush (v := 500) hx hb dX9_frame_37 (by decide) ?_
    refine lv_icmp_le (tgt := 45) hx hb dX9_frame_40 (by decide) (fun c14 => ?_) (fun c14 => ?_)
    · replace hF := it_t c14 hF
      refine lv_iconst (v := 0) hx hb dX9_frame_45 (by decide) ?_
      refine lv_istore (lv' := [(4, .int 0), (3, .int x13), (0, .ref h_), (1, .int l1), (2, .int l2)]) hx hb dX9_frame_46 hl (Nat.le_of_ble_eq_true rfl) rfl (fun ls hl => ?_)
      exact J48 100000 l1 l2 x13 0 v_waveMany v_thrown v_waveHigh_a v_waveBeats_a _ _ _ hF (lv_sub hl [2, 3, 4, 1, 0] rfl) hP hD hS
    · replace hF := it_f c14 hF
      refine lv_iconst (v := (-1)) hx hb dX9_frame_43 (by decide) ?_
      exact hret ((-1), v_waveMany, v_thrown, v_waveHigh_a, v_waveBeats_a) (-1) _ _ 44 _ hP hD hS hF rfl dX9_frame_44
  unfold F_X9_frame at hF
  refine lv_aload_n hx hb dX9_frame_0 rfl (lv_at hl 0 rfl) ?_
  refine lv_iconst (v := 0) hx hb dX9_frame_1 (by decide) ?_
  refine pf (ci := 8) (v := .int 0) (ty := .int) (C := RX9) (T := TX9) (N := 40) (ws' := [oX9 h_ v_divisor v_clocks v_wanted v_rowsOn v_level v_form v_outputs v_byteKept v_ins v_changed h_received h_marks v_receivedMany v_overrun h_sending v_sendingMany v_emptyUp v_lateUp v_lateCount h_waveHigh h_waveBeats v_waveMany v_lineIn v_sends v_sentCharacter v_sentForm v_sentBeat v_senderHigh v_takes v_sawHigh v_takenForm v_takenBeat v_takenBits v_takenParity v_beats v_out h_runHigh h_runBeats v_runs 0, aZ h_waveHigh k_waveHigh v_waveHigh_n v_waveHigh_a, aI h_waveBeats k_waveBeats v_waveBeats_n v_waveBeats_a]) hx hb hts i_X9 tyX9_ok nmX9 hown hK hP hD hS 0 rfl rfl 39 (Nat.le_of_ble_eq_true rfl) f_35 rfl rfl (by decide +kernel) rfl rfl (Nat.le_of_ble_eq_true rfl) rfl dX9_frame_2 (fun H locs hP hD hS => ?_)
  refine lv_iconst (v := 2) hx hb dX9_frame_5 (by decide) ?_
  refine lv_aload_n hx hb dX9_frame_6 rfl (lv_at hl 0 rfl) ?_
  refine va_get (D := D) (ci := 8) (v := .int v_form) (C := RX9) (T := TX9) (N := 40) hx hb hts i_X9 hown hK hP 0 rfl rfl 5 (Nat.le_of_ble_eq_true rfl) f_55 (fun _ h9 => h9) rfl dX9_frame_7 ?_
  obtain ⟨u15, hu15, hF⟩ := bd_el hF
  refine cSI (As := [.int v_form]) (rest := [.int 2]) (wr := [oX9 h_ v_divisor v_clocks v_wanted v_rowsOn v_level v_form v_outputs v_byteKept v_ins v_changed h_received h_marks v_receivedMany v_overrun h_sending v_sendingMany v_emptyUp v_lateUp v_lateCount h_waveHigh h_waveBeats v_waveMany v_lineIn v_sends v_sentCharacter v_sentForm v_sentBeat v_senderHigh v_takes v_sawHigh v_takenForm v_takenBeat v_takenBits v_takenParity v_beats v_out h_runHigh h_runBeats v_runs 0, aZ h_waveHigh k_waveHigh v_waveHigh_n v_waveHigh_a, aI h_waveBeats k_waveBeats v_waveBeats_n v_waveBeats_a]) (ws' := [oX9 h_ v_divisor v_clocks v_wanted v_rowsOn v_level v_form v_outputs v_byteKept v_ins v_changed h_received h_marks v_receivedMany v_overrun h_sending v_sendingMany v_emptyUp v_lateUp v_lateCount h_waveHigh h_waveBeats v_waveMany v_lineIn v_sends v_sentCharacter v_sentForm v_sentBeat v_senderHigh v_takes v_sawHigh v_takenForm v_takenBeat v_takenBits v_takenParity v_beats v_out h_runHigh h_runBeats v_runs 0, aZ h_waveHigh k_waveHigh v_waveHigh_n v_waveHigh_a, aI h_waveBeats k_waveBeats v_waveBeats_n v_waveBeats_a]) (rv := u15) ⟨hx, hb, hml, hown, hts⟩ (mX9_bitsOf D v_form u15 hu15) (va_cwS 1 hts gX9_frame_X9_bitsOf rfl rfl rfl (by decide +kernel) ⟨Nat.le_of_ble_eq_true rfl, Nat.le_of_ble_eq_true rfl⟩) hK hP hD hS hA [] [] [0, 1, 2] [0, 1, 2] rfl rfl rfl rfl rfl rfl hl.1 rfl (Nat.le_of_ble_eq_true rfl) rfl dX9_frame_10 ⟨Nat.le_refl _, Nat.le_refl _⟩ (fun H locs hP hD hS => ?_)
  refine lv_iadd hx hb dX9_frame_13 ?_
  refine lv_aload_n hx hb dX9_frame_14 rfl (lv_at hl 0 rfl) ?_
  refine va_get (D := D) (ci := 8) (v := .int v_form) (C := RX9) (T := TX9) (N := 40) hx hb hts i_X9 hown hK hP 0 rfl rfl 5 (Nat.le_of_ble_eq_true rfl) f_55 (fun _ h9 => h9) rfl dX9_frame_15 ?_
  obtain ⟨u16, hu16, hF⟩ := bd_el hF
  refine cSI (As := [.int v_form]) (rest := [.int (2 + u15)]) (wr := [oX9 h_ v_divisor v_clocks v_wanted v_rowsOn v_level v_form v_outputs v_byteKept v_ins v_changed h_received h_marks v_receivedMany v_overrun h_sending v_sendingMany v_emptyUp v_lateUp v_lateCount h_waveHigh h_waveBeats v_waveMany v_lineIn v_sends v_sentCharacter v_sentForm v_sentBeat v_senderHigh v_takes v_sawHigh v_takenForm v_takenBeat v_takenBits v_takenParity v_beats v_out h_runHigh h_runBeats v_runs 0, aZ h_waveHigh k_waveHigh v_waveHigh_n v_waveHigh_a, aI h_waveBeats k_waveBeats v_waveBeats_n v_waveBeats_a]) (ws' := [oX9 h_ v_divisor v_clocks v_wanted v_rowsOn v_level v_form v_outputs v_byteKept v_ins v_changed h_received h_marks v_receivedMany v_overrun h_sending v_sendingMany v_emptyUp v_lateUp v_lateCount h_waveHigh h_waveBeats v_waveMany v_lineIn v_sends v_sentCharacter v_sentForm v_sentBeat v_senderHigh v_takes v_sawHigh v_takenForm v_takenBeat v_takenBits v_takenParity v_beats v_out h_runHigh h_runBeats v_runs 0, aZ h_waveHigh k_waveHigh v_waveHigh_n v_waveHigh_a, aI h_waveBeats k_waveBeats v_waveBeats_n v_waveBeats_a]) (rv := bI u16) ⟨hx, hb, hml, hown, hts⟩ (mX9_hasParity D v_form u16 hu16) (va_cwS 1 hts gX9_frame_X9_hasParity rfl rfl rfl (by decide +kernel) ⟨Nat.le_of_ble_eq_true rfl, Nat.le_of_ble_eq_true rfl⟩) hK hP hD hS hA [] [] [0, 1, 2] [0, 1, 2] rfl rfl rfl rfl rfl rfl hl.1 rfl (Nat.le_of_ble_eq_true rfl) rfl dX9_frame_18 ⟨Nat.le_refl _, Nat.le_refl _⟩ (fun H locs hP hD hS => ?_)
  refine lv_if_eq (tgt := 28) hx hb dX9_frame_21 (by decide) (fun c17 => ?_) (fun c17 => ?_)
  · replace hF := bt_f (bI_0 c17) hF
    refine lv_iconst (v := 0) hx hb dX9_frame_28 (by decide) ?_
    exact J29 (2 + u15) false p1 p2 v_waveMany 0 v_waveHigh_a v_waveBeats_a _ _ _ hF hl hP hD hS
  · replace hF := bt_t (bI_n0 c17) hF
    refine lv_iconst (v := 1) hx hb dX9_frame_24 (by decide) ?_
    refine lv_goto (tgt := 29) hx hb dX9_frame_25 (by decide) ?_
    exact J29 (2 + u15) true p1 p2 v_waveMany 0 v_waveHigh_a v_waveBeats_a _ _ _ hF hl hP hD hS
def F_X9_count (p1 : Int32) (v_wanted : Int32) (v_rowsOn : Bool) (v_level : Int32) (v_changed : Int32) (v_receivedMany : Int32) (v_overrun : Bool) (v_sendingMany : Int32) (v_emptyUp : Bool) (v_lateUp : Bool) (v_waveMany : Int32) (v_sends : Bool) (v_takes : Bool) (v_beats : Int32) (v_out : Bool) (v_runs : Int32) (v_thrown : Int32) (v_marks_n : Nat) (v_marks_a : Nat → Int32) : Option (Int32 × Int32) := if p1 = 0 then (some (v_receivedMany, 0)) else (if p1 = 1 then (some (v_sendingMany, 0)) else (if p1 = 2 then (some (v_beats, 0)) else (if p1 = 3 then (bd (F_X9_reason v_wanted v_rowsOn v_level v_changed v_receivedMany v_overrun v_emptyUp v_lateUp v_marks_n v_marks_a) (fun u5 => if u5 = 1 then (some (0, 0)) else (some (1, 0)))) else (if p1 = 4 then (bt v_out (some (1, 0)) (some (0, 0))) else (if p1 = 5 then (some (v_waveMany, 0)) else (if p1 = 6 then (some (v_runs, 0)) else (if p1 = 7 then (bt v_sends (some (1, 0)) (some (0, 0))) else (if p1 = 8 then (bt v_takes (some (1, 0)) (some (0, 0))) else (some ((-1), 0))))))))))
def wX9_count (k_marks : ClassId) (h_ : Nat) (h_received : Nat) (h_marks : Nat) (h_sending : Nat) (h_waveHigh : Nat) (h_waveBeats : Nat) (h_runHigh : Nat) (h_runBeats : Nat) (v_divisor : Int32) (v_clocks : Int32) (v_wanted : Int32) (v_rowsOn : Bool) (v_level : Int32) (v_form : Int32) (v_outputs : Int32) (v_byteKept : Int32) (v_ins : Int32) (v_changed : Int32) (v_receivedMany : Int32) (v_overrun : Bool) (v_sendingMany : Int32) (v_emptyUp : Bool) (v_lateUp : Bool) (v_lateCount : Int32) (v_waveMany : Int32) (v_lineIn : Bool) (v_sends : Bool) (v_sentCharacter : Int32) (v_sentForm : Int32) (v_sentBeat : Int32) (v_senderHigh : Bool) (v_takes : Bool) (v_sawHigh : Bool) (v_takenForm : Int32) (v_takenBeat : Int32) (v_takenBits : Int32) (v_takenParity : Int32) (v_beats : Int32) (v_out : Bool) (v_runs : Int32) (v_marks_n : Nat) (v_marks_a : Nat → Int32) (u : Int32 × Int32) : va_W := [oX9 h_ v_divisor v_clocks v_wanted v_rowsOn v_level v_form v_outputs v_byteKept v_ins v_changed h_received h_marks v_receivedMany v_overrun h_sending v_sendingMany v_emptyUp v_lateUp v_lateCount h_waveHigh h_waveBeats v_waveMany v_lineIn v_sends v_sentCharacter v_sentForm v_sentBeat v_senderHigh v_takes v_sawHigh v_takenForm v_takenBeat v_takenBits v_takenParity v_beats v_out h_runHigh h_runBeats v_runs u.2, aI h_marks k_marks v_marks_n v_marks_a]
set_option maxHeartbeats 4000000 in
set_option maxRecDepth 100000 in
theorem mX9_count {l : Launch} (D : va_G) (k_marks : ClassId) (h_ : Nat) (h_received : Nat) (h_marks : Nat) (h_sending : Nat) (h_waveHigh : Nat) (h_waveBeats : Nat) (h_runHigh : Nat) (h_runBeats : Nat) (v_divisor : Int32) (v_clocks : Int32) (v_wanted : Int32) (v_rowsOn : Bool) (v_level : Int32) (v_form : Int32) (v_outputs : Int32) (v_byteKept : Int32) (v_ins : Int32) (v_changed : Int32) (v_receivedMany : Int32) (v_overrun : Bool) (v_sendingMany : Int32) (v_emptyUp : Bool) (v_lateUp : Bool) (v_lateCount : Int32) (v_waveMany : Int32) (v_lineIn : Bool) (v_sends : Bool) (v_sentCharacter : Int32) (v_sentForm : Int32) (v_sentBeat : Int32) (v_senderHigh : Bool) (v_takes : Bool) (v_sawHigh : Bool) (v_takenForm : Int32) (v_takenBeat : Int32) (v_takenBits : Int32) (v_takenParity : Int32) (v_beats : Int32) (v_out : Bool) (v_runs : Int32) (v_thrown : Int32) (v_marks_n : Nat) (v_marks_a : Nat → Int32) (p1 : Int32) (u0 : Int32 × Int32) (hF : F_X9_count p1 v_wanted v_rowsOn v_level v_changed v_receivedMany v_overrun v_sendingMany v_emptyUp v_lateUp v_waveMany v_sends v_takes v_beats v_out v_runs v_thrown v_marks_n v_marks_a = some u0) : MI l yX9_count wsX9_count { frames := 2, cells := 0, slots := 0, locals := 40 } D [(k_marks, .int)] [.ref h_, .int p1] [oX9 h_ v_divisor v_clocks v_wanted v_rowsOn v_level v_form v_outputs v_byteKept v_ins v_changed h_received h_marks v_receivedMany v_overrun h_sending v_sendingMany v_emptyUp v_lateUp v_lateCount h_waveHigh h_waveBeats v_waveMany v_lineIn v_sends v_sentCharacter v_sentForm v_sentBeat v_senderHigh v_takes v_sawHigh v_takenForm v_takenBeat v_takenBits v_takenParity v_beats v_out h_runHigh h_runBeats v_runs v_thrown, aI h_marks k_marks v_marks_n v_marks_a] (wX9_count k_marks h_ h_received h_marks h_sending h_waveHigh h_waveBeats h_runHigh h_runBeats v_divisor v_clocks v_wanted v_rowsOn v_level v_form v_outputs v_byteKept v_ins v_changed v_receivedMany v_overrun v_sendingMany v_emptyUp v_lateUp v_lateCount v_waveMany v_lineIn v_sends v_sentCharacter v_sentForm v_sentBeat v_senderHigh v_takes v_sawHigh v_takenForm v_takenBeat v_takenBits v_takenParity v_beats v_out v_runs v_marks_n v_marks_a u0) (u0.1) := by
  refine MI.ofW (cc := cX9_count) (maxL := 2) (ret := (some .int)) (lv := [(0, .ref h_), (1, .int p1)]) (by decide +kernel) rfl (Nat.le_of_ble_eq_true rfl) rfl ?_
  intro p e s m args below meth c A ls hx hb hr hml hts hown hlocks hA hK hP hD hS hl
  replace hown : s.vm.findClass RX9 = some m.cls := hown
  have i_X9 : ∀ w ∈ wsX90, w ∈ wsX9_count := by decide +kernel
  have f_35 := hts (.fieldLink RX9 35 "SerialPortModel" "thrown" "I") (by decide +kernel)
  have f_70 := hts (.fieldLink RX9 70 "SerialPortModel" "receivedMany" "I") (by decide +kernel)
  have f_76 := hts (.fieldLink RX9 76 "SerialPortModel" "sendingMany" "I") (by decide +kernel)
  have f_88 := hts (.fieldLink RX9 88 "SerialPortModel" "waveMany" "I") (by decide +kernel)
  have f_94 := hts (.fieldLink RX9 94 "SerialPortModel" "sends" "Z") (by decide +kernel)
  have f_100 := hts (.fieldLink RX9 100 "SerialPortModel" "takes" "Z") (by decide +kernel)
  have f_106 := hts (.fieldLink RX9 106 "SerialPortModel" "beats" "I") (by decide +kernel)
  have f_109 := hts (.fieldLink RX9 109 "SerialPortModel" "out" "Z") (by decide +kernel)
  have f_112 := hts (.fieldLink RX9 112 "SerialPortModel" "runs" "I") (by decide +kernel)
  have hret : ∀ (u : Int32 × Int32) (v : Int32) (H : Heap) (locs : List Loc) (pc : Nat) (ls : Array Slot), va_P D vwCl (wX9_count k_marks h_ h_received h_marks h_sending h_waveHigh h_waveBeats h_runHigh h_runBeats v_divisor v_clocks v_wanted v_rowsOn v_level v_form v_outputs v_byteKept v_ins v_changed v_receivedMany v_overrun v_sendingMany v_emptyUp v_lateUp v_lateCount v_waveMany v_lineIn v_sends v_sentCharacter v_sentForm v_sentBeat v_senderHigh v_takes v_sawHigh v_takenForm v_takenBeat v_takenBits v_takenParity v_beats v_out v_runs v_marks_n v_marks_a u) H → va_D A (wX9_count k_marks h_ h_received h_marks h_sending h_waveHigh h_waveBeats h_runHigh h_runBeats v_divisor v_clocks v_wanted v_rowsOn v_level v_form v_outputs v_byteKept v_ins v_changed v_receivedMany v_overrun v_sendingMany v_emptyUp v_lateUp v_lateCount v_waveMany v_lineIn v_sends v_sentCharacter v_sentForm v_sentBeat v_senderHigh v_takes v_sawHigh v_takenForm v_takenBeat v_takenBits v_takenParity v_beats v_out v_runs v_marks_n v_marks_a u) → va_S A s.heap H locs → some u = some u0 → v = u.1 → decode cX9_count pc = .ok (.ireturn, 1) → W p l e { frames := 2, cells := 0, slots := 0, locals := 40 } s m args below meth c H locs 0 0 (QI below D [(k_marks, .int)] (wX9_count k_marks h_ h_received h_marks h_sending h_waveHigh h_waveBeats h_runHigh h_runBeats v_divisor v_clocks v_wanted v_rowsOn v_level v_form v_outputs v_byteKept v_ins v_changed v_receivedMany v_overrun v_sendingMany v_emptyUp v_lateUp v_lateCount v_waveMany v_lineIn v_sends v_sentCharacter v_sentForm v_sentBeat v_senderHigh v_takes v_sawHigh v_takenForm v_takenBeat v_takenBits v_takenParity v_beats v_out v_runs v_marks_n v_marks_a u0) (u0.1) args s A) (F0 m pc ls [.int v]) := fun u v H locs pc ls h1 h2 h3 h4 h5 h6 => rI (wf := wX9_count k_marks h_ h_received h_marks h_sending h_waveHigh h_waveBeats h_runHigh h_runBeats v_divisor v_clocks v_wanted v_rowsOn v_level v_form v_outputs v_byteKept v_ins v_changed v_receivedMany v_overrun v_sendingMany v_emptyUp v_lateUp v_lateCount v_waveMany v_lineIn v_sends v_sentCharacter v_sentForm v_sentBeat v_senderHigh v_takes v_sawHigh v_takenForm v_takenBeat v_takenBits v_takenParity v_beats v_out v_runs v_marks_n v_marks_a) (rf := fun u => u.1) hx hb hr hlocks hK h1 h2 h3 h4 h5 h6
  unfold F_X9_count at hF
  refine lv_aload_n hx hb dX9_count_0 rfl (lv_at hl 0 rfl) ?_
  refine lv_iconst (v := 0) hx hb dX9_count_1 (by decide) ?_
  refine pf (ci := 8) (v := .int 0) (ty := .int) (C := RX9) (T := TX9) (N := 40) (ws' := [oX9 h_ v_divisor v_clocks v_wanted v_rowsOn v_level v_form v_outputs v_byteKept v_ins v_changed h_received h_marks v_receivedMany v_overrun h_sending v_sendingMany v_emptyUp v_lateUp v_lateCount h_waveHigh h_waveBeats v_waveMany v_lineIn v_sends v_sentCharacter v_sentForm v_sentBeat v_senderHigh v_takes v_sawHigh v_takenForm v_takenBeat v_takenBits v_takenParity v_beats v_out h_runHigh h_runBeats v_runs 0, aI h_marks k_marks v_marks_n v_marks_a]) hx hb hts i_X9 tyX9_ok nmX9 hown hK hP hD hS 0 rfl rfl 39 (Nat.le_of_ble_eq_true rfl) f_35 rfl rfl (by decide +kernel) rfl rfl (Nat.le_of_ble_eq_true rfl) rfl dX9_count_2 (fun H locs hP hD hS => ?_)
  refine lv_iload_n hx hb dX9_count_5 rfl (lv_at hl 1 rfl) ?_
  by_cases c1 : p1 = 0
  · replace hF := it_t c1 hF
    refine lv_tableIn (tgt := 56) hx hb dX9_count_6 (by rw [c1]; decide) (by rw [c1]; decide) (by rw [c1]; rfl) (by decide) ?_
    refine lv_aload_n hx hb dX9_count_56 rfl (lv_at hl 0 rfl) ?_
    refine va_get (D := D) (ci := 8) (v := .int v_receivedMany) (C := RX9) (T := TX9) (N := 40) hx hb hts i_X9 hown hK hP 0 rfl rfl 12 (Nat.le_of_ble_eq_true rfl) f_70 (fun _ h9 => h9) rfl dX9_count_57 ?_
    exact hret (v_receivedMany, 0) v_receivedMany _ _ 60 _ hP hD hS hF rfl dX9_count_60
  · replace hF := it_f c1 hF
    by_cases c2 : p1 = 1
    · replace hF := it_t c2 hF
      refine lv_tableIn (tgt := 61) hx hb dX9_count_6 (by rw [c2]; decide) (by rw [c2]; decide) (by rw [c2]; rfl) (by decide) ?_
      refine lv_aload_n hx hb dX9_count_61 rfl (lv_at hl 0 rfl) ?_
      refine va_get (D := D) (ci := 8) (v := .int v_sendingMany) (C := RX9) (T := TX9) (N := 40) hx hb hts i_X9 hown hK hP 0 rfl rfl 15 (Nat.le_of_ble_eq_true rfl) f_76 (fun _ h9 => h9) rfl dX9_count_62 ?_
      exact hret (v_sendingMany, 0) v_sendingMany _ _ 65 _ hP hD hS hF rfl dX9_count_65
    · replace hF := it_f c2 hF
      by_cases c3 : p1 = 2
      · replace hF := it_t c3 hF
        refine lv_tableIn (tgt := 66) hx hb dX9_count_6 (by rw [c3]; decide) (by rw [c3]; decide) (by rw [c3]; rfl) (by decide) ?_
        refine lv_aload_n hx hb dX9_count_66 rfl (lv_at hl 0 rfl) ?_
        refine va_get (D := D) (ci := 8) (v := .int v_beats) (C := RX9) (T := TX9) (N := 40) hx hb hts i_X9 hown hK hP 0 rfl rfl 34 (Nat.le_of_ble_eq_true rfl) f_106 (fun _ h9 => h9) rfl dX9_count_67 ?_
        exact hret (v_beats, 0) v_beats _ _ 70 _ hP hD hS hF rfl dX9_count_70
      · replace hF := it_f c3 hF
        by_cases c4 : p1 = 3
        · replace hF := it_t c4 hF
          refine lv_tableIn (tgt := 71) hx hb dX9_count_6 (by rw [c4]; decide) (by rw [c4]; decide) (by rw [c4]; rfl) (by decide) ?_
          refine lv_aload_n hx hb dX9_count_71 rfl (lv_at hl 0 rfl) ?_
          obtain ⟨u5, hu5, hF⟩ := bd_el hF
          refine cVI (q0 := 0) (ci := 8) (As := []) (rest := []) (wr := []) (ws' := [oX9 h_ v_divisor v_clocks v_wanted v_rowsOn v_level v_form v_outputs v_byteKept v_ins v_changed h_received h_marks v_receivedMany v_overrun h_sending v_sendingMany v_emptyUp v_lateUp v_lateCount h_waveHigh h_waveBeats v_waveMany v_lineIn v_sends v_sentCharacter v_sentForm v_sentBeat v_senderHigh v_takes v_sawHigh v_takenForm v_takenBeat v_takenBits v_takenParity v_beats v_out h_runHigh h_runBeats v_runs 0, aI h_marks k_marks v_marks_n v_marks_a]) (rv := u5) ⟨hx, hb, hml, hown, hts⟩ (mX9_reason D k_marks h_ h_received h_marks h_sending h_waveHigh h_waveBeats h_runHigh h_runBeats v_divisor v_clocks v_wanted v_rowsOn v_level v_form v_outputs v_byteKept v_ins v_changed v_receivedMany v_overrun v_sendingMany v_emptyUp v_lateUp v_lateCount v_waveMany v_lineIn v_sends v_sentCharacter v_sentForm v_sentBeat v_senderHigh v_takes v_sawHigh v_takenForm v_takenBeat v_takenBits v_takenParity v_beats v_out v_runs 0 v_marks_n v_marks_a u5 hu5) (cwV 0 hts gX9_count_X9_reason rfl rfl rfl (by decide +kernel) ⟨Nat.le_of_ble_eq_true rfl, Nat.le_of_ble_eq_true rfl⟩) hK hP hD hS hA [0] [0, 1] [] [0, 1] rfl rfl rfl rfl rfl rfl rfl rfl rfl hl.1 rfl (Nat.le_of_ble_eq_true rfl) rfl dX9_count_72 ⟨Nat.le_refl _, Nat.le_refl _⟩ (fun H locs hP hD hS => ?_)
          refine lv_iconst (v := 1) hx hb dX9_count_75 (by decide) ?_
          refine lv_icmp_ne (tgt := 83) hx hb dX9_count_76 (by decide) (fun c6 => ?_) (fun c6 => ?_)
          · replace hF := it_f c6 hF
            refine lv_iconst (v := 1) hx hb dX9_count_83 (by decide) ?_
            exact hret (1, 0) 1 _ _ 84 _ hP hD hS hF rfl dX9_count_84
          · replace hF := it_t c6 hF
            refine lv_iconst (v := 0) hx hb dX9_count_79 (by decide) ?_
            refine lv_goto (tgt := 84) hx hb dX9_count_80 (by decide) ?_
            exact hret (0, 0) 0 _ _ 84 _ hP hD hS hF rfl dX9_count_84
        · replace hF := it_f c4 hF
          by_cases c7 : p1 = 4
          · replace hF := it_t c7 hF
            refine lv_tableIn (tgt := 85) hx hb dX9_count_6 (by rw [c7]; decide) (by rw [c7]; decide) (by rw [c7]; rfl) (by decide) ?_
            refine lv_aload_n hx hb dX9_count_85 rfl (lv_at hl 0 rfl) ?_
            refine va_get (D := D) (ci := 8) (v := .int (bI v_out)) (C := RX9) (T := TX9) (N := 40) hx hb hts i_X9 hown hK hP 0 rfl rfl 35 (Nat.le_of_ble_eq_true rfl) f_109 (fun _ h9 => h9) rfl dX9_count_86 ?_
            refine lv_if_eq (tgt := 96) hx hb dX9_count_89 (by decide) (fun c8 => ?_) (fun c8 => ?_)
            · replace hF := bt_f (bI_0 c8) hF
              refine lv_iconst (v := 0) hx hb dX9_count_96 (by decide) ?_
              exact hret (0, 0) 0 _ _ 97 _ hP hD hS hF rfl dX9_count_97
            · replace hF := bt_t (bI_n0 c8) hF
              refine lv_iconst (v := 1) hx hb dX9_count_92 (by decide) ?_
              refine lv_goto (tgt := 97) hx hb dX9_count_93 (by decide) ?_
              exact hret (1, 0) 1 _ _ 97 _ hP hD hS hF rfl dX9_count_97
          · replace hF := it_f c7 hF
            by_cases c9 : p1 = 5
            · replace hF := it_t c9 hF
              refine lv_tableIn (tgt := 98) hx hb dX9_count_6 (by rw [c9]; decide) (by rw [c9]; decide) (by rw [c9]; rfl) (by decide) ?_
              refine lv_aload_n hx hb dX9_count_98 rfl (lv_at hl 0 rfl) ?_
              refine va_get (D := D) (ci := 8) (v := .int v_waveMany) (C := RX9) (T := TX9) (N := 40) hx hb hts i_X9 hown hK hP 0 rfl rfl 21 (Nat.le_of_ble_eq_true rfl) f_88 (fun _ h9 => h9) rfl dX9_count_99 ?_
              exact hret (v_waveMany, 0) v_waveMany _ _ 102 _ hP hD hS hF rfl dX9_count_102
            · replace hF := it_f c9 hF
              by_cases c10 : p1 = 6
              · replace hF := it_t c10 hF
                refine lv_tableIn (tgt := 103) hx hb dX9_count_6 (by rw [c10]; decide) (by rw [c10]; decide) (by rw [c10]; rfl) (by decide) ?_
                refine lv_aload_n hx hb dX9_count_103 rfl (lv_at hl 0 rfl) ?_
                refine va_get (D := D) (ci := 8) (v := .int v_runs) (C := RX9) (T := TX9) (N := 40) hx hb hts i_X9 hown hK hP 0 rfl rfl 38 (Nat.le_of_ble_eq_true rfl) f_112 (fun _ h9 => h9) rfl dX9_count_104 ?_
                exact hret (v_runs, 0) v_runs _ _ 107 _ hP hD hS hF rfl dX9_count_107
              · replace hF := it_f c10 hF
                by_cases c11 : p1 = 7
                · replace hF := it_t c11 hF
                  refine lv_tableIn (tgt := 108) hx hb dX9_count_6 (by rw [c11]; decide) (by rw [c11]; decide) (by rw [c11]; rfl) (by decide) ?_
                  refine lv_aload_n hx hb dX9_count_108 rfl (lv_at hl 0 rfl) ?_
                  refine va_get (D := D) (ci := 8) (v := .int (bI v_sends)) (C := RX9) (T := TX9) (N := 40) hx hb hts i_X9 hown hK hP 0 rfl rfl 23 (Nat.le_of_ble_eq_true rfl) f_94 (fun _ h9 => h9) rfl dX9_count_109 ?_
                  refine lv_if_eq (tgt := 119) hx hb dX9_count_112 (by decide) (fun c12 => ?_) (fun c12 => ?_)
                  · replace hF := bt_f (bI_0 c12) hF
                    refine lv_iconst (v := 0) hx hb dX9_count_119 (by decide) ?_
                    exact hret (0, 0) 0 _ _ 120 _ hP hD hS hF rfl dX9_count_120
                  · replace hF := bt_t (bI_n0 c12) hF
                    refine lv_iconst (v := 1) hx hb dX9_count_115 (by decide) ?_
                    refine lv_goto (tgt := 120) hx hb dX9_count_116 (by decide) ?_
                    exact hret (1, 0) 1 _ _ 120 _ hP hD hS hF rfl dX9_count_120
                · replace hF := it_f c11 hF
                  by_cases c13 : p1 = 8
                  · replace hF := it_t c13 hF
                    refine lv_tableIn (tgt := 121) hx hb dX9_count_6 (by rw [c13]; decide) (by rw [c13]; decide) (by rw [c13]; rfl) (by decide) ?_
                    refine lv_aload_n hx hb dX9_count_121 rfl (lv_at hl 0 rfl) ?_
                    refine va_get (D := D) (ci := 8) (v := .int (bI v_takes)) (C := RX9) (T := TX9) (N := 40) hx hb hts i_X9 hown hK hP 0 rfl rfl 28 (Nat.le_of_ble_eq_true rfl) f_100 (fun _ h9 => h9) rfl dX9_count_122 ?_
                    refine lv_if_eq (tgt := 132) hx hb dX9_count_125 (by decide) (fun c14 => ?_) (fun c14 => ?_)
                    · replace hF := bt_f (bI_0 c14) hF
                      refine lv_iconst (v := 0) hx hb dX9_count_132 (by decide) ?_
                      exact hret (0, 0) 0 _ _ 133 _ hP hD hS hF rfl dX9_count_133
                    · replace hF := bt_t (bI_n0 c14) hF
                      refine lv_iconst (v := 1) hx hb dX9_count_128 (by decide) ?_
                      refine lv_goto (tgt := 133) hx hb dX9_count_129 (by decide) ?_
                      exact hret (1, 0) 1 _ _ 133 _ hP hD hS hF rfl dX9_count_133
                  · replace hF := it_f c13 hF
                    refine lv_tableOut (tgt := 134) hx hb dX9_count_6 (tb_out9 c1 c2 c3 c4 c7 c9 c10 c11 c13) (by decide) ?_
                    refine lv_iconst (v := (-1)) hx hb dX9_count_134 (by decide) ?_
                    exact hret ((-1), 0) (-1) _ _ 135 _ hP hD hS hF rfl dX9_count_135
def F_X9_run (p1 : Int32) (p2 : Int32) (v_runs : Int32) (v_thrown : Int32) (v_runHigh_n : Nat) (v_runHigh_a : Nat → Bool) (v_runBeats_n : Nat) (v_runBeats_a : Nat → Int32) : Option (Int32 × Int32) := if p1 < 0 then (some ((-1), 0)) else (if 40 ≤ p1 then (some ((-1), 0)) else (if v_runs ≤ p1 then (some ((-1), 0)) else (if p2 < 0 then (some ((-1), 0)) else (if p2 ≤ 1 then (lt1 (((v_runs - 1) - p1) - ((v_runs - 1) - p1) / 40 * 40) (fun x6 => if p2 = 1 then (gd (inR x6 v_runBeats_n = true) (some ((v_runBeats_a x6.toNatClampNeg), 0))) else (gd (inR x6 v_runHigh_n = true) (bt (v_runHigh_a x6.toNatClampNeg) (some (1, 0)) (some (0, 0)))))) else (some ((-1), 0))))))
def wX9_run (k_runHigh : ClassId) (k_runBeats : ClassId) (h_ : Nat) (h_received : Nat) (h_marks : Nat) (h_sending : Nat) (h_waveHigh : Nat) (h_waveBeats : Nat) (h_runHigh : Nat) (h_runBeats : Nat) (v_divisor : Int32) (v_clocks : Int32) (v_wanted : Int32) (v_rowsOn : Bool) (v_level : Int32) (v_form : Int32) (v_outputs : Int32) (v_byteKept : Int32) (v_ins : Int32) (v_changed : Int32) (v_receivedMany : Int32) (v_overrun : Bool) (v_sendingMany : Int32) (v_emptyUp : Bool) (v_lateUp : Bool) (v_lateCount : Int32) (v_waveMany : Int32) (v_lineIn : Bool) (v_sends : Bool) (v_sentCharacter : Int32) (v_sentForm : Int32) (v_sentBeat : Int32) (v_senderHigh : Bool) (v_takes : Bool) (v_sawHigh : Bool) (v_takenForm : Int32) (v_takenBeat : Int32) (v_takenBits : Int32) (v_takenParity : Int32) (v_beats : Int32) (v_out : Bool) (v_runs : Int32) (v_runHigh_n : Nat) (v_runHigh_a : Nat → Bool) (v_runBeats_n : Nat) (v_runBeats_a : Nat → Int32) (u : Int32 × Int32) : va_W := [oX9 h_ v_divisor v_clocks v_wanted v_rowsOn v_level v_form v_outputs v_byteKept v_ins v_changed h_received h_marks v_receivedMany v_overrun h_sending v_sendingMany v_emptyUp v_lateUp v_lateCount h_waveHigh h_waveBeats v_waveMany v_lineIn v_sends v_sentCharacter v_sentForm v_sentBeat v_senderHigh v_takes v_sawHigh v_takenForm v_takenBeat v_takenBits v_takenParity v_beats v_out h_runHigh h_runBeats v_runs u.2, aZ h_runHigh k_runHigh v_runHigh_n v_runHigh_a, aI h_runBeats k_runBeats v_runBeats_n v_runBeats_a]
set_option maxHeartbeats 4000000 in
set_option maxRecDepth 100000 in
theorem mX9_run {l : Launch} (D : va_G) (k_runHigh : ClassId) (k_runBeats : ClassId) (h_ : Nat) (h_received : Nat) (h_marks : Nat) (h_sending : Nat) (h_waveHigh : Nat) (h_waveBeats : Nat) (h_runHigh : Nat) (h_runBeats : Nat) (v_divisor : Int32) (v_clocks : Int32) (v_wanted : Int32) (v_rowsOn : Bool) (v_level : Int32) (v_form : Int32) (v_outputs : Int32) (v_byteKept : Int32) (v_ins : Int32) (v_changed : Int32) (v_receivedMany : Int32) (v_overrun : Bool) (v_sendingMany : Int32) (v_emptyUp : Bool) (v_lateUp : Bool) (v_lateCount : Int32) (v_waveMany : Int32) (v_lineIn : Bool) (v_sends : Bool) (v_sentCharacter : Int32) (v_sentForm : Int32) (v_sentBeat : Int32) (v_senderHigh : Bool) (v_takes : Bool) (v_sawHigh : Bool) (v_takenForm : Int32) (v_takenBeat : Int32) (v_takenBits : Int32) (v_takenParity : Int32) (v_beats : Int32) (v_out : Bool) (v_runs : Int32) (v_thrown : Int32) (v_runHigh_n : Nat) (v_runHigh_a : Nat → Bool) (v_runBeats_n : Nat) (v_runBeats_a : Nat → Int32) (p1 : Int32) (p2 : Int32) (u0 : Int32 × Int32) (hF : F_X9_run p1 p2 v_runs v_thrown v_runHigh_n v_runHigh_a v_runBeats_n v_runBeats_a = some u0) : MI l yX9_run wsX9_run { frames := 0, cells := 0, slots := 0, locals := 0 } D [(k_runHigh, .boolean), (k_runBeats, .int)] [.ref h_, .int p1, .int p2] [oX9 h_ v_divisor v_clocks v_wanted v_rowsOn v_level v_form v_outputs v_byteKept v_ins v_changed h_received h_marks v_receivedMany v_overrun h_sending v_sendingMany v_emptyUp v_lateUp v_lateCount h_waveHigh h_waveBeats v_waveMany v_lineIn v_sends v_sentCharacter v_sentForm v_sentBeat v_senderHigh v_takes v_sawHigh v_takenForm v_takenBeat v_takenBits v_takenParity v_beats v_out h_runHigh h_runBeats v_runs v_thrown, aZ h_runHigh k_runHigh v_runHigh_n v_runHigh_a, aI h_runBeats k_runBeats v_runBeats_n v_runBeats_a] (wX9_run k_runHigh k_runBeats h_ h_received h_marks h_sending h_waveHigh h_waveBeats h_runHigh h_runBeats v_divisor v_clocks v_wanted v_rowsOn v_level v_form v_outputs v_byteKept v_ins v_changed v_receivedMany v_overrun v_sendingMany v_emptyUp v_lateUp v_lateCount v_waveMany v_lineIn v_sends v_sentCharacter v_sentForm v_sentBeat v_senderHigh v_takes v_sawHigh v_takenForm v_takenBeat v_takenBits v_takenParity v_beats v_out v_runs v_runHigh_n v_runHigh_a v_runBeats_n v_runBeats_a u0) (u0.1) := by
  refine MI.ofW (cc := cX9_run) (maxL := 4) (ret := (some .int)) (lv := [(0, .ref h_), (1, .int p1), (2, .int p2)]) (by decide +kernel) rfl (Nat.le_of_ble_eq_true rfl) rfl ?_
  intro p e s m args below meth c A ls hx hb hr hml hts hown hlocks hA hK hP hD hS hl
  replace hown : s.vm.findClass RX9 = some m.cls := hown
  have i_X9 : ∀ w ∈ wsX90, w ∈ wsX9_run := by decide +kernel
  have f_26 := hts (.fieldLink RX9 26 "SerialPortModel" "runHigh" "[Z") (by decide +kernel)
  have f_29 := hts (.fieldLink RX9 29 "SerialPortModel" "runBeats" "[I") (by decide +kernel)
  have f_35 := hts (.fieldLink RX9 35 "SerialPortModel" "thrown" "I") (by decide +kernel)
  have f_112 := hts (.fieldLink RX9 112 "SerialPortModel" "runs" "I") (by decide +kernel)
  have hret : ∀ (u : Int32 × Int32) (v : Int32) (H : Heap) (locs : List Loc) (pc : Nat) (ls : Array Slot), va_P D vwCl (wX9_run k_runHigh k_runBeats h_ h_received h_marks h_sending h_waveHigh h_waveBeats h_runHigh h_runBeats v_divisor v_clocks v_wanted v_rowsOn v_level v_form v_outputs v_byteKept v_ins v_changed v_receivedMany v_overrun v_sendingMany v_emptyUp v_lateUp v_lateCount v_waveMany v_lineIn v_sends v_sentCharacter v_sentForm v_sentBeat v_senderHigh v_takes v_sawHigh v_takenForm v_takenBeat v_takenBits v_takenParity v_beats v_out v_runs v_runHigh_n v_runHigh_a v_runBeats_n v_runBeats_a u) H → va_D A (wX9_run k_runHigh k_runBeats h_ h_received h_marks h_sending h_waveHigh h_waveBeats h_runHigh h_runBeats v_divisor v_clocks v_wanted v_rowsOn v_level v_form v_outputs v_byteKept v_ins v_changed v_receivedMany v_overrun v_sendingMany v_emptyUp v_lateUp v_lateCount v_waveMany v_lineIn v_sends v_sentCharacter v_sentForm v_sentBeat v_senderHigh v_takes v_sawHigh v_takenForm v_takenBeat v_takenBits v_takenParity v_beats v_out v_runs v_runHigh_n v_runHigh_a v_runBeats_n v_runBeats_a u) → va_S A s.heap H locs → some u = some u0 → v = u.1 → decode cX9_run pc = .ok (.ireturn, 1) → W p l e { frames := 0, cells := 0, slots := 0, locals := 0 } s m args below meth c H locs 0 0 (QI below D [(k_runHigh, .boolean), (k_runBeats, .int)] (wX9_run k_runHigh k_runBeats h_ h_received h_marks h_sending h_waveHigh h_waveBeats h_runHigh h_runBeats v_divisor v_clocks v_wanted v_rowsOn v_level v_form v_outputs v_byteKept v_ins v_changed v_receivedMany v_overrun v_sendingMany v_emptyUp v_lateUp v_lateCount v_waveMany v_lineIn v_sends v_sentCharacter v_sentForm v_sentBeat v_senderHigh v_takes v_sawHigh v_takenForm v_takenBeat v_takenBits v_takenParity v_beats v_out v_runs v_runHigh_n v_runHigh_a v_runBeats_n v_runBeats_a u0) (u0.1) args s A) (F0 m pc ls [.int v]) := fun u v H locs pc ls h1 h2 h3 h4 h5 h6 => rI (wf := wX9_run k_runHigh k_runBeats h_ h_received h_marks h_sending h_waveHigh h_waveBeats h_runHigh h_runBeats v_divisor v_clocks v_wanted v_rowsOn v_level v_form v_outputs v_byteKept v_ins v_changed v_receivedMany v_overrun v_sendingMany v_emptyUp v_lateUp v_lateCount v_waveMany v_lineIn v_sends v_sentCharacter v_sentForm v_sentBeat v_senderHigh v_takes v_sawHigh v_takenForm v_takenBeat v_takenBits v_takenParity v_beats v_out v_runs v_runHigh_n v_runHigh_a v_runBeats_n v_runBeats_a) (rf := fun u => u.1) hx hb hr hlocks hK h1 h2 h3 h4 h5 h6
  unfold F_X9_run at hF
  refine lv_aload_n hx hb dX9_run_0 rfl (lv_at hl 0 rfl) ?_
  refine lv_iconst (v := 0) hx hb dX9_run_1 (by decide) ?_
  refine pf (ci := 8) (v := .int 0) (ty := .int) (C := RX9) (T := TX9) (N := 40) (ws' := [oX9 h_ v_divisor v_clocks v_wanted v_rowsOn v_level v_form v_outputs v_byteKept v_ins v_changed h_received h_marks v_receivedMany v_overrun h_sending v_sendingMany v_emptyUp v_lateUp v_lateCount h_waveHigh h_waveBeats v_waveMany v_lineIn v_sends v_sentCharacter v_sentForm v_sentBeat v_senderHigh v_takes v_sawHigh v_takenForm v_takenBeat v_takenBits v_takenParity v_beats v_out h_runHigh h_runBeats v_runs 0, aZ h_runHigh k_runHigh v_runHigh_n v_runHigh_a, aI h_runBeats k_runBeats v_runBeats_n v_runBeats_a]) hx hb hts i_X9 tyX9_ok nmX9 hown hK hP hD hS 0 rfl rfl 39 (Nat.le_of_ble_eq_true rfl) f_35 rfl rfl (by decide +kernel) rfl rfl (Nat.le_of_ble_eq_true rfl) rfl dX9_run_2 (fun H locs hP hD hS => ?_)
  refine lv_iload_n hx hb dX9_run_5 rfl (lv_at hl 1 rfl) ?_
  refine lv_if_lt (tgt := 32) hx hb dX9_run_6 (by decide) (fun c1 => ?_) (fun c1 => ?_)
  · replace hF := it_t c1 hF
    refine lv_iconst (v := (-1)) hx hb dX9_run_32 (by decide) ?_
    exact hret ((-1), 0) (-1) _ _ 33 _ hP hD hS hF rfl dX9_run_33
  · replace hF := it_f c1 hF
    refine lv_iload_n hx hb dX9_run_9 rfl (lv_at hl 1 rfl) ?_
    refine lv_bipush (v := 40) hx hb dX9_run_10 (by decide) ?_
    refine lv_icmp_ge (tgt := 32) hx hb dX9_run_12 (by decide) (fun c2 => ?_) (fun c2 => ?_)
    · replace hF := it_t c2 hF
      refine lv_iconst (v := (-1)) hx hb dX9_run_32 (by decide) ?_
      exact hret ((-1), 0) (-1) _ _ 33 _ hP hD hS hF rfl dX9_run_33
    · replace hF := it_f c2 hF
      refine lv_iload_n hx hb dX9_run_15 rfl (lv_at hl 1 rfl) ?_
      refine lv_aload_n hx hb dX9_run_16 rfl (lv_at hl 0 rfl) ?_
      refine va_get (D := D) (ci := 8) (v := .int v_runs) (C := RX9) (T := TX9) (N := 40) hx hb hts i_X9 hown hK hP 0 rfl rfl 38 (Nat.le_of_ble_eq_true rfl) f_112 (fun _ h9 => h9) rfl dX9_run_17 ?_
      refine lv_icmp_ge (tgt := 32) hx hb dX9_run_20 (by decide) (fun c3 => ?_) (fun c3 => ?_)
      · replace hF := it_t c3 hF
        refine lv_iconst (v := (-1)) hx hb dX9_run_32 (by decide) ?_
        exact hret ((-1), 0) (-1) _ _ 33 _ hP hD hS hF rfl dX9_run_33
      · replace hF := it_f c3 hF
        refine lv_iload_n hx hb dX9_run_23 rfl (lv_at hl 2 rfl) ?_
        refine lv_if_lt (tgt := 32) hx hb dX9_run_24 (by decide) (fun c4 => ?_) (fun c4 => ?_)
        · replace hF := it_t c4 hF
          refine lv_iconst (v := (-1)) hx hb dX9_run_32 (by decide) ?_
          exact hret ((-1), 0) (-1) _ _ 33 _ hP hD hS hF rfl dX9_run_33
        · replace hF := it_f c4 hF
          refine lv_iload_n hx hb dX9_run_27 rfl (lv_at hl 2 rfl) ?_
          refine lv_iconst (v := 1) hx hb dX9_run_28 (by decide) ?_
          refine lv_icmp_le (tgt := 34) hx hb dX9_run_29 (by decide) (fun c5 => ?_) (fun c5 => ?_)
          · replace hF := it_t c5 hF
            refine lv_aload_n hx hb dX9_run_34 rfl (lv_at hl 0 rfl) ?_
            refine va_get (D := D) (ci := 8) (v := .int v_runs) (C := RX9) (T := TX9) (N := 40) hx hb hts i_X9 hown hK hP 0 rfl rfl 38 (Nat.le_of_ble_eq_true rfl) f_112 (fun _ h9 => h9) rfl dX9_run_35 ?_
            refine lv_iconst (v := 1) hx hb dX9_run_38 (by decide) ?_
            refine lv_isub hx hb dX9_run_39 ?_
            refine lv_iload_n hx hb dX9_run_40 rfl (lv_at hl 1 rfl) ?_
            refine lv_isub hx hb dX9_run_41 ?_
            refine lv_bipush (v := 40) hx hb dX9_run_42 (by decide) ?_
            refine lv_irem hx hb dX9_run_44 (by decide) ?_
            refine lv_topi (fun x6 ex6 => ?_)
            replace hF := lt1_x ex6 hF
            refine lv_istore_n (lv' := [(3, .int x6), (0, .ref h_), (1, .int p1), (2, .int p2)]) hx hb dX9_run_45 rfl hl (Nat.le_of_ble_eq_true rfl) rfl (fun ls hl => ?_)
            refine lv_iload_n hx hb dX9_run_46 rfl (lv_at hl 3 rfl) ?_
            refine lv_iconst (v := 1) hx hb dX9_run_47 (by decide) ?_
            refine lv_icmp_ne (tgt := 60) hx hb dX9_run_48 (by decide) (fun c7 => ?_) (fun c7 => ?_)
            · replace hF := it_f c7 hF
              refine lv_aload_n hx hb dX9_run_60 rfl (lv_at hl 1 rfl) ?_
              refine va_get (D := D) (ci := 8) (v := .ref h_runHigh) (C := RX9) (T := TX9) (N := 40) hx hb hts i_X9 hown hK hP 0 rfl rfl 36 (Nat.le_of_ble_eq_true rfl) f_26 (fun _ h9 => h9) rfl dX9_run_61 ?_
              refine lv_iload_n hx hb dX9_run_64 rfl (lv_at hl 0 rfl) ?_
              obtain ⟨g8, hF⟩ := gd_el hF
              refine va_zald hx hb hK hP 1 0 rfl rfl (inR_in g8) dX9_run_65 ?_
              refine W.eq (g2 := F0 m 66 ls [.int (bI (v_runHigh_a x6.toNatClampNeg))]) rfl ?_
              refine lv_if_eq (tgt := 73) hx hb dX9_run_66 (by decide) (fun c9 => ?_) (fun c9 => ?_)
              · replace hF := bt_f (bI_0 c9) hF
                refine lv_iconst (v := 0) hx hb dX9_run_73 (by decide) ?_
                exact hret (0, 0) 0 _ _ 74 _ hP hD hS hF rfl dX9_run_74
              · replace hF := bt_t (bI_n0 c9) hF
                refine lv_iconst (v := 1) hx hb dX9_run_69 (by decide) ?_
                refine lv_goto (tgt := 74) hx hb dX9_run_70 (by decide) ?_
                exact hret (1, 0) 1 _ _ 74 _ hP hD hS hF rfl dX9_run_74
            · replace hF := it_t c7 hF
              refine lv_aload_n hx hb dX9_run_51 rfl (lv_at hl 1 rfl) ?_
              refine va_get (D := D) (ci := 8) (v := .ref h_runBeats) (C := RX9) (T := TX9) (N := 40) hx hb hts i_X9 hown hK hP 0 rfl rfl 37 (Nat.le_of_ble_eq_true rfl) f_29 (fun _ h9 => h9) rfl dX9_run_52 ?_
              refine lv_iload_n hx hb dX9_run_55 rfl (lv_at hl 0 rfl) ?_
              obtain ⟨g10, hF⟩ := gd_el hF
              refine va_iald hx hb hK hP 2 1 rfl rfl (inR_in g10) dX9_run_56 ?_
              refine lv_goto (tgt := 74) hx hb dX9_run_57 (by decide) ?_
              exact hret ((v_runBeats_a x6.toNatClampNeg), 0) (v_runBeats_a x6.toNatClampNeg) _ _ 74 _ hP hD hS hF rfl dX9_run_74
          · replace hF := it_f c5 hF
            refine lv_iconst (v := (-1)) hx hb dX9_run_32 (by decide) ?_
            exact hret ((-1), 0) (-1) _ _ 33 _ hP hD hS hF rfl dX9_run_33
