theorem dX9_isMarked_0 : decode cX9_isMarked 0 = .ok (.aload_n 0, 1) := by decide +kernel
theorem dX9_isMarked_1 : decode cX9_isMarked 1 = .ok (.getfield 70, 3) := by decide +kernel
theorem dX9_isMarked_4 : decode cX9_isMarked 4 = .ok (.ifCond .le 16, 3) := by decide +kernel
theorem dX9_isMarked_7 : decode cX9_isMarked 7 = .ok (.aload_n 0, 1) := by decide +kernel
theorem dX9_isMarked_8 : decode cX9_isMarked 8 = .ok (.getfield 13, 3) := by decide +kernel
theorem dX9_isMarked_11 : decode cX9_isMarked 11 = .ok (.iconst 0, 1) := by decide +kernel
theorem dX9_isMarked_12 : decode cX9_isMarked 12 = .ok (.iaload, 1) := by decide +kernel
theorem dX9_isMarked_13 : decode cX9_isMarked 13 = .ok (.ifCond .eq 7, 3) := by decide +kernel
theorem dX9_isMarked_16 : decode cX9_isMarked 16 = .ok (.iconst 1, 1) := by decide +kernel
theorem dX9_isMarked_17 : decode cX9_isMarked 17 = .ok (.goto 4, 3) := by decide +kernel
theorem dX9_isMarked_20 : decode cX9_isMarked 20 = .ok (.iconst 0, 1) := by decide +kernel
theorem dX9_isMarked_21 : decode cX9_isMarked 21 = .ok (.ireturn, 1) := by decide +kernel
theorem dX9_reason_0 : decode cX9_reason 0 = .ok (.aload_n 0, 1) := by decide +kernel
theorem dX9_reason_1 : decode cX9_reason 1 = .ok (.getfield 45, 3) := by decide +kernel
theorem dX9_reason_4 : decode cX9_reason 4 = .ok (.iconst 4, 1) := by decide +kernel
theorem dX9_reason_5 : decode cX9_reason 5 = .ok (.iand, 1) := by decide +kernel
theorem dX9_reason_6 : decode cX9_reason 6 = .ok (.ifCond .eq 20, 3) := by decide +kernel
theorem dX9_reason_9 : decode cX9_reason 9 = .ok (.aload_n 0, 1) := by decide +kernel
theorem dX9_reason_10 : decode cX9_reason 10 = .ok (.getfield 73, 3) := by decide +kernel
theorem dX9_reason_13 : decode cX9_reason 13 = .ok (.ifCond .ne 10, 3) := by decide +kernel
theorem dX9_reason_16 : decode cX9_reason 16 = .ok (.aload_n 0, 1) := by decide +kernel
theorem dX9_reason_17 : decode cX9_reason 17 = .ok (.invokevirtual 157, 3) := by decide +kernel
theorem dX9_reason_20 : decode cX9_reason 20 = .ok (.ifCond .eq 6, 3) := by decide +kernel
theorem dX9_reason_23 : decode cX9_reason 23 = .ok (.bipush 6, 2) := by decide +kernel
theorem dX9_reason_25 : decode cX9_reason 25 = .ok (.ireturn, 1) := by decide +kernel
theorem dX9_reason_26 : decode cX9_reason 26 = .ok (.aload_n 0, 1) := by decide +kernel
theorem dX9_reason_27 : decode cX9_reason 27 = .ok (.getfield 45, 3) := by decide +kernel
theorem dX9_reason_30 : decode cX9_reason 30 = .ok (.iconst 1, 1) := by decide +kernel
theorem dX9_reason_31 : decode cX9_reason 31 = .ok (.iand, 1) := by decide +kernel
theorem dX9_reason_32 : decode cX9_reason 32 = .ok (.ifCond .eq 44, 3) := by decide +kernel
theorem dX9_reason_35 : decode cX9_reason 35 = .ok (.aload_n 0, 1) := by decide +kernel
theorem dX9_reason_36 : decode cX9_reason 36 = .ok (.getfield 70, 3) := by decide +kernel
theorem dX9_reason_39 : decode cX9_reason 39 = .ok (.aload_n 0, 1) := by decide +kernel
theorem dX9_reason_40 : decode cX9_reason 40 = .ok (.getfield 48, 3) := by decide +kernel
theorem dX9_reason_43 : decode cX9_reason 43 = .ok (.ifCond .eq 10, 3) := by decide +kernel
theorem dX9_reason_46 : decode cX9_reason 46 = .ok (.aload_n 0, 1) := by decide +kernel
theorem dX9_reason_47 : decode cX9_reason 47 = .ok (.getfield 52, 3) := by decide +kernel
theorem dX9_reason_50 : decode cX9_reason 50 = .ok (.goto 4, 3) := by decide +kernel
theorem dX9_reason_53 : decode cX9_reason 53 = .ok (.iconst 1, 1) := by decide +kernel
theorem dX9_reason_54 : decode cX9_reason 54 = .ok (.if_icmp .lt 5, 3) := by decide +kernel
theorem dX9_reason_57 : decode cX9_reason 57 = .ok (.iconst 4, 1) := by decide +kernel
theorem dX9_reason_58 : decode cX9_reason 58 = .ok (.ireturn, 1) := by decide +kernel
theorem dX9_reason_59 : decode cX9_reason 59 = .ok (.aload_n 0, 1) := by decide +kernel
theorem dX9_reason_60 : decode cX9_reason 60 = .ok (.getfield 48, 3) := by decide +kernel
theorem dX9_reason_63 : decode cX9_reason 63 = .ok (.ifCond .eq 13, 3) := by decide +kernel
theorem dX9_reason_66 : decode cX9_reason 66 = .ok (.aload_n 0, 1) := by decide +kernel
theorem dX9_reason_67 : decode cX9_reason 67 = .ok (.getfield 82, 3) := by decide +kernel
theorem dX9_reason_70 : decode cX9_reason 70 = .ok (.ifCond .eq 6, 3) := by decide +kernel
theorem dX9_reason_73 : decode cX9_reason 73 = .ok (.bipush 12, 2) := by decide +kernel
theorem dX9_reason_75 : decode cX9_reason 75 = .ok (.ireturn, 1) := by decide +kernel
theorem dX9_reason_76 : decode cX9_reason 76 = .ok (.aload_n 0, 1) := by decide +kernel
theorem dX9_reason_77 : decode cX9_reason 77 = .ok (.getfield 45, 3) := by decide +kernel
theorem dX9_reason_80 : decode cX9_reason 80 = .ok (.iconst 2, 1) := by decide +kernel
theorem dX9_reason_81 : decode cX9_reason 81 = .ok (.iand, 1) := by decide +kernel
theorem dX9_reason_82 : decode cX9_reason 82 = .ok (.ifCond .eq 12, 3) := by decide +kernel
theorem dX9_reason_85 : decode cX9_reason 85 = .ok (.aload_n 0, 1) := by decide +kernel
theorem dX9_reason_86 : decode cX9_reason 86 = .ok (.getfield 79, 3) := by decide +kernel
theorem dX9_reason_89 : decode cX9_reason 89 = .ok (.ifCond .eq 5, 3) := by decide +kernel
theorem dX9_reason_92 : decode cX9_reason 92 = .ok (.iconst 2, 1) := by decide +kernel
theorem dX9_reason_93 : decode cX9_reason 93 = .ok (.ireturn, 1) := by decide +kernel
theorem dX9_reason_94 : decode cX9_reason 94 = .ok (.aload_n 0, 1) := by decide +kernel
theorem dX9_reason_95 : decode cX9_reason 95 = .ok (.getfield 45, 3) := by decide +kernel
theorem dX9_reason_98 : decode cX9_reason 98 = .ok (.bipush 8, 2) := by decide +kernel
theorem dX9_reason_100 : decode cX9_reason 100 = .ok (.iand, 1) := by decide +kernel
theorem dX9_reason_101 : decode cX9_reason 101 = .ok (.ifCond .eq 14, 3) := by decide +kernel
theorem dX9_reason_104 : decode cX9_reason 104 = .ok (.aload_n 0, 1) := by decide +kernel
theorem dX9_reason_105 : decode cX9_reason 105 = .ok (.getfield 67, 3) := by decide +kernel
theorem dX9_reason_108 : decode cX9_reason 108 = .ok (.ifCond .eq 7, 3) := by decide +kernel
theorem dX9_reason_111 : decode cX9_reason 111 = .ok (.iconst 0, 1) := by decide +kernel
theorem dX9_reason_112 : decode cX9_reason 112 = .ok (.goto 4, 3) := by decide +kernel
theorem dX9_reason_115 : decode cX9_reason 115 = .ok (.iconst 1, 1) := by decide +kernel
theorem dX9_reason_116 : decode cX9_reason 116 = .ok (.ireturn, 1) := by decide +kernel
set_option maxRecDepth 20000 in
theorem ggX9_reason_X9_isMarked : GoodIn wsX9_reason wsX9_isMarked := goodIn_r _ [13, 3, 14, 15, 16, 17, 18, 19, 20, 21, 22, 23, 24, 25, 26, 27, 28, 29, 30, 31, 32, 33, 34, 35, 36, 37, 38, 39, 40, 41, 42, 43, 44, 45, 46, 47, 48, 49, 50, 51, 52, 53, 54] (by decide +kernel) (by decide +kernel)
set_option maxRecDepth 20000 in
theorem gX9_reason_X9_isMarked : GoodIn wsX9_reason (wsV RX9 157 RX9 yX9_isMarked wsX9_isMarked) := goodIn_app (goodIn_of _ (by decide +kernel)) ggX9_reason_X9_isMarked
theorem dX9_line_0 : decode cX9_line 0 = .ok (.aload_n 0, 1) := by decide +kernel
theorem dX9_line_1 : decode cX9_line 1 = .ok (.getfield 70, 3) := by decide +kernel
theorem dX9_line_4 : decode cX9_line 4 = .ok (.ifCond .le 7, 3) := by decide +kernel
theorem dX9_line_7 : decode cX9_line 7 = .ok (.iconst 1, 1) := by decide +kernel
theorem dX9_line_8 : decode cX9_line 8 = .ok (.goto 4, 3) := by decide +kernel
theorem dX9_line_11 : decode cX9_line 11 = .ok (.iconst 0, 1) := by decide +kernel
theorem dX9_line_12 : decode cX9_line 12 = .ok (.aload_n 0, 1) := by decide +kernel
theorem dX9_line_13 : decode cX9_line 13 = .ok (.getfield 73, 3) := by decide +kernel
theorem dX9_line_16 : decode cX9_line 16 = .ok (.ifCond .eq 7, 3) := by decide +kernel
theorem dX9_line_19 : decode cX9_line 19 = .ok (.iconst 2, 1) := by decide +kernel
theorem dX9_line_20 : decode cX9_line 20 = .ok (.goto 4, 3) := by decide +kernel
theorem dX9_line_23 : decode cX9_line 23 = .ok (.iconst 0, 1) := by decide +kernel
theorem dX9_line_24 : decode cX9_line 24 = .ok (.ior, 1) := by decide +kernel
theorem dX9_line_25 : decode cX9_line 25 = .ok (.aload_n 0, 1) := by decide +kernel
theorem dX9_line_26 : decode cX9_line 26 = .ok (.getfield 70, 3) := by decide +kernel
theorem dX9_line_29 : decode cX9_line 29 = .ok (.ifCond .le 12, 3) := by decide +kernel
theorem dX9_line_32 : decode cX9_line 32 = .ok (.aload_n 0, 1) := by decide +kernel
theorem dX9_line_33 : decode cX9_line 33 = .ok (.getfield 13, 3) := by decide +kernel
theorem dX9_line_36 : decode cX9_line 36 = .ok (.iconst 0, 1) := by decide +kernel
theorem dX9_line_37 : decode cX9_line 37 = .ok (.iaload, 1) := by decide +kernel
theorem dX9_line_38 : decode cX9_line 38 = .ok (.goto 4, 3) := by decide +kernel
theorem dX9_line_41 : decode cX9_line 41 = .ok (.iconst 0, 1) := by decide +kernel
theorem dX9_line_42 : decode cX9_line 42 = .ok (.ior, 1) := by decide +kernel
theorem dX9_line_43 : decode cX9_line 43 = .ok (.istore_n 1, 1) := by decide +kernel
theorem dX9_line_44 : decode cX9_line 44 = .ok (.iload_n 1, 1) := by decide +kernel
theorem dX9_line_45 : decode cX9_line 45 = .ok (.aload_n 0, 1) := by decide +kernel
theorem dX9_line_46 : decode cX9_line 46 = .ok (.getfield 76, 3) := by decide +kernel
theorem dX9_line_49 : decode cX9_line 49 = .ok (.ifCond .ne 8, 3) := by decide +kernel
theorem dX9_line_52 : decode cX9_line 52 = .ok (.bipush 32, 2) := by decide +kernel
theorem dX9_line_54 : decode cX9_line 54 = .ok (.goto 4, 3) := by decide +kernel
theorem dX9_line_57 : decode cX9_line 57 = .ok (.iconst 0, 1) := by decide +kernel
theorem dX9_line_58 : decode cX9_line 58 = .ok (.aload_n 0, 1) := by decide +kernel
theorem dX9_line_59 : decode cX9_line 59 = .ok (.getfield 76, 3) := by decide +kernel
theorem dX9_line_62 : decode cX9_line 62 = .ok (.ifCond .ne 15, 3) := by decide +kernel
theorem dX9_line_65 : decode cX9_line 65 = .ok (.aload_n 0, 1) := by decide +kernel
theorem dX9_line_66 : decode cX9_line 66 = .ok (.getfield 94, 3) := by decide +kernel
theorem dX9_line_69 : decode cX9_line 69 = .ok (.ifCond .ne 8, 3) := by decide +kernel
theorem dX9_line_72 : decode cX9_line 72 = .ok (.bipush 64, 2) := by decide +kernel
theorem dX9_line_74 : decode cX9_line 74 = .ok (.goto 4, 3) := by decide +kernel
theorem dX9_line_77 : decode cX9_line 77 = .ok (.iconst 0, 1) := by decide +kernel
theorem dX9_line_78 : decode cX9_line 78 = .ok (.ior, 1) := by decide +kernel
theorem dX9_line_79 : decode cX9_line 79 = .ok (.ior, 1) := by decide +kernel
theorem dX9_line_80 : decode cX9_line 80 = .ok (.istore_n 1, 1) := by decide +kernel
theorem dX9_line_81 : decode cX9_line 81 = .ok (.iconst 0, 1) := by decide +kernel
theorem dX9_line_82 : decode cX9_line 82 = .ok (.istore_n 2, 1) := by decide +kernel
theorem dX9_line_83 : decode cX9_line 83 = .ok (.iconst 0, 1) := by decide +kernel
theorem dX9_line_84 : decode cX9_line 84 = .ok (.istore_n 3, 1) := by decide +kernel
theorem dX9_line_85 : decode cX9_line 85 = .ok (.iload_n 3, 1) := by decide +kernel
theorem dX9_line_86 : decode cX9_line 86 = .ok (.aload_n 0, 1) := by decide +kernel
theorem dX9_line_87 : decode cX9_line 87 = .ok (.getfield 70, 3) := by decide +kernel
theorem dX9_line_90 : decode cX9_line 90 = .ok (.if_icmp .ge 28, 3) := by decide +kernel
theorem dX9_line_93 : decode cX9_line 93 = .ok (.iload_n 2, 1) := by decide +kernel
theorem dX9_line_94 : decode cX9_line 94 = .ok (.ifCond .ne 12, 3) := by decide +kernel
theorem dX9_line_97 : decode cX9_line 97 = .ok (.aload_n 0, 1) := by decide +kernel
theorem dX9_line_98 : decode cX9_line 98 = .ok (.getfield 13, 3) := by decide +kernel
theorem dX9_line_101 : decode cX9_line 101 = .ok (.iload_n 3, 1) := by decide +kernel
theorem dX9_line_102 : decode cX9_line 102 = .ok (.iaload, 1) := by decide +kernel
theorem dX9_line_103 : decode cX9_line 103 = .ok (.ifCond .eq 7, 3) := by decide +kernel
theorem dX9_line_106 : decode cX9_line 106 = .ok (.iconst 1, 1) := by decide +kernel
theorem dX9_line_107 : decode cX9_line 107 = .ok (.goto 4, 3) := by decide +kernel
theorem dX9_line_110 : decode cX9_line 110 = .ok (.iconst 0, 1) := by decide +kernel
theorem dX9_line_111 : decode cX9_line 111 = .ok (.istore_n 2, 1) := by decide +kernel
theorem dX9_line_112 : decode cX9_line 112 = .ok (.iinc 3 1, 3) := by decide +kernel
theorem dX9_line_115 : decode cX9_line 115 = .ok (.goto (-30), 3) := by decide +kernel
theorem dX9_line_118 : decode cX9_line 118 = .ok (.aload_n 0, 1) := by decide +kernel
theorem dX9_line_119 : decode cX9_line 119 = .ok (.getfield 48, 3) := by decide +kernel
theorem dX9_line_122 : decode cX9_line 122 = .ok (.ifCond .eq 13, 3) := by decide +kernel
theorem dX9_line_125 : decode cX9_line 125 = .ok (.iload_n 2, 1) := by decide +kernel
theorem dX9_line_126 : decode cX9_line 126 = .ok (.ifCond .eq 9, 3) := by decide +kernel
theorem dX9_line_129 : decode cX9_line 129 = .ok (.iload_n 1, 1) := by decide +kernel
theorem dX9_line_130 : decode cX9_line 130 = .ok (.sipush 128, 3) := by decide +kernel
theorem dX9_line_133 : decode cX9_line 133 = .ok (.ior, 1) := by decide +kernel
theorem dX9_line_134 : decode cX9_line 134 = .ok (.istore_n 1, 1) := by decide +kernel
theorem dX9_line_135 : decode cX9_line 135 = .ok (.aload_n 0, 1) := by decide +kernel
theorem dX9_line_136 : decode cX9_line 136 = .ok (.iconst 0, 1) := by decide +kernel
theorem dX9_line_137 : decode cX9_line 137 = .ok (.putfield 73, 3) := by decide +kernel
theorem dX9_line_140 : decode cX9_line 140 = .ok (.aload_n 0, 1) := by decide +kernel
theorem dX9_line_141 : decode cX9_line 141 = .ok (.getfield 70, 3) := by decide +kernel
theorem dX9_line_144 : decode cX9_line 144 = .ok (.ifCond .le 10, 3) := by decide +kernel
theorem dX9_line_147 : decode cX9_line 147 = .ok (.aload_n 0, 1) := by decide +kernel
theorem dX9_line_148 : decode cX9_line 148 = .ok (.getfield 13, 3) := by decide +kernel
theorem dX9_line_151 : decode cX9_line 151 = .ok (.iconst 0, 1) := by decide +kernel
theorem dX9_line_152 : decode cX9_line 152 = .ok (.iconst 0, 1) := by decide +kernel
theorem dX9_line_153 : decode cX9_line 153 = .ok (.iastore, 1) := by decide +kernel
theorem dX9_line_154 : decode cX9_line 154 = .ok (.iload_n 1, 1) := by decide +kernel
theorem dX9_line_155 : decode cX9_line 155 = .ok (.ireturn, 1) := by decide +kernel
theorem dX9_take_0 : decode cX9_take 0 = .ok (.aload_n 0, 1) := by decide +kernel
theorem dX9_take_1 : decode cX9_take 1 = .ok (.iconst 0, 1) := by decide +kernel
theorem dX9_take_2 : decode cX9_take 2 = .ok (.putfield 82, 3) := by decide +kernel
theorem dX9_take_5 : decode cX9_take 5 = .ok (.aload_n 0, 1) := by decide +kernel
theorem dX9_take_6 : decode cX9_take 6 = .ok (.iconst 0, 1) := by decide +kernel
theorem dX9_take_7 : decode cX9_take 7 = .ok (.putfield 85, 3) := by decide +kernel
theorem dX9_take_10 : decode cX9_take 10 = .ok (.aload_n 0, 1) := by decide +kernel
theorem dX9_take_11 : decode cX9_take 11 = .ok (.getfield 70, 3) := by decide +kernel
theorem dX9_take_14 : decode cX9_take 14 = .ok (.ifCond .ne 5, 3) := by decide +kernel
theorem dX9_take_17 : decode cX9_take 17 = .ok (.iconst 0, 1) := by decide +kernel
theorem dX9_take_18 : decode cX9_take 18 = .ok (.ireturn, 1) := by decide +kernel
theorem dX9_take_19 : decode cX9_take 19 = .ok (.aload_n 0, 1) := by decide +kernel
theorem dX9_take_20 : decode cX9_take 20 = .ok (.getfield 9, 3) := by decide +kernel
theorem dX9_take_23 : decode cX9_take 23 = .ok (.iconst 0, 1) := by decide +kernel
theorem dX9_take_24 : decode cX9_take 24 = .ok (.iaload, 1) := by decide +kernel
theorem dX9_take_25 : decode cX9_take 25 = .ok (.istore_n 1, 1) := by decide +kernel
theorem dX9_take_26 : decode cX9_take 26 = .ok (.aload_n 0, 1) := by decide +kernel
theorem dX9_take_27 : decode cX9_take 27 = .ok (.dup, 1) := by decide +kernel
theorem dX9_take_28 : decode cX9_take 28 = .ok (.getfield 70, 3) := by decide +kernel
theorem dX9_take_31 : decode cX9_take 31 = .ok (.iconst 1, 1) := by decide +kernel
theorem dX9_take_32 : decode cX9_take 32 = .ok (.isub, 1) := by decide +kernel
theorem dX9_take_33 : decode cX9_take 33 = .ok (.putfield 70, 3) := by decide +kernel
theorem dX9_take_36 : decode cX9_take 36 = .ok (.iconst 0, 1) := by decide +kernel
theorem dX9_take_37 : decode cX9_take 37 = .ok (.istore_n 2, 1) := by decide +kernel
theorem dX9_take_38 : decode cX9_take 38 = .ok (.iload_n 2, 1) := by decide +kernel
theorem dX9_take_39 : decode cX9_take 39 = .ok (.aload_n 0, 1) := by decide +kernel
theorem dX9_take_40 : decode cX9_take 40 = .ok (.getfield 70, 3) := by decide +kernel
theorem dX9_take_43 : decode cX9_take 43 = .ok (.if_icmp .ge 37, 3) := by decide +kernel
theorem dX9_take_46 : decode cX9_take 46 = .ok (.aload_n 0, 1) := by decide +kernel
theorem dX9_take_47 : decode cX9_take 47 = .ok (.getfield 9, 3) := by decide +kernel
theorem dX9_take_50 : decode cX9_take 50 = .ok (.iload_n 2, 1) := by decide +kernel
theorem dX9_take_51 : decode cX9_take 51 = .ok (.aload_n 0, 1) := by decide +kernel
theorem dX9_take_52 : decode cX9_take 52 = .ok (.getfield 9, 3) := by decide +kernel
theorem dX9_take_55 : decode cX9_take 55 = .ok (.iload_n 2, 1) := by decide +kernel
theorem dX9_take_56 : decode cX9_take 56 = .ok (.iconst 1, 1) := by decide +kernel
theorem dX9_take_57 : decode cX9_take 57 = .ok (.iadd, 1) := by decide +kernel
theorem dX9_take_58 : decode cX9_take 58 = .ok (.iaload, 1) := by decide +kernel
theorem dX9_take_59 : decode cX9_take 59 = .ok (.iastore, 1) := by decide +kernel
theorem dX9_take_60 : decode cX9_take 60 = .ok (.aload_n 0, 1) := by decide +kernel
theorem dX9_take_61 : decode cX9_take 61 = .ok (.getfield 13, 3) := by decide +kernel
theorem dX9_take_64 : decode cX9_take 64 = .ok (.iload_n 2, 1) := by decide +kernel
theorem dX9_take_65 : decode cX9_take 65 = .ok (.aload_n 0, 1) := by decide +kernel
theorem dX9_take_66 : decode cX9_take 66 = .ok (.getfield 13, 3) := by decide +kernel
theorem dX9_take_69 : decode cX9_take 69 = .ok (.iload_n 2, 1) := by decide +kernel
theorem dX9_take_70 : decode cX9_take 70 = .ok (.iconst 1, 1) := by decide +kernel
theorem dX9_take_71 : decode cX9_take 71 = .ok (.iadd, 1) := by decide +kernel
theorem dX9_take_72 : decode cX9_take 72 = .ok (.iaload, 1) := by decide +kernel
theorem dX9_take_73 : decode cX9_take 73 = .ok (.iastore, 1) := by decide +kernel
theorem dX9_take_74 : decode cX9_take 74 = .ok (.iinc 2 1, 3) := by decide +kernel
theorem dX9_take_77 : decode cX9_take 77 = .ok (.goto (-39), 3) := by decide +kernel
theorem dX9_take_80 : decode cX9_take 80 = .ok (.iload_n 1, 1) := by decide +kernel
theorem dX9_take_81 : decode cX9_take 81 = .ok (.ireturn, 1) := by decide +kernel
theorem dX9_read_0 : decode cX9_read 0 = .ok (.aload_n 0, 1) := by decide +kernel
theorem dX9_read_1 : decode cX9_read 1 = .ok (.iconst 0, 1) := by decide +kernel
theorem dX9_read_2 : decode cX9_read 2 = .ok (.putfield 35, 3) := by decide +kernel
theorem dX9_read_5 : decode cX9_read 5 = .ok (.iload_n 1, 1) := by decide +kernel
theorem dX9_read_6 : decode cX9_read 6 = .ok (.tableswitch 162 0 7 #[46, 69, 91, 123, 128, 133, 138, 157], 46) := by decide +kernel
theorem dX9_read_52 : decode cX9_read 52 = .ok (.aload_n 0, 1) := by decide +kernel
theorem dX9_read_53 : decode cX9_read 53 = .ok (.invokevirtual 147, 3) := by decide +kernel
theorem dX9_read_56 : decode cX9_read 56 = .ok (.ifCond .eq 14, 3) := by decide +kernel
theorem dX9_read_59 : decode cX9_read 59 = .ok (.aload_n 0, 1) := by decide +kernel
theorem dX9_read_60 : decode cX9_read 60 = .ok (.getfield 39, 3) := by decide +kernel
theorem dX9_read_63 : decode cX9_read 63 = .ok (.sipush 255, 3) := by decide +kernel
theorem dX9_read_66 : decode cX9_read 66 = .ok (.iand, 1) := by decide +kernel
theorem dX9_read_67 : decode cX9_read 67 = .ok (.goto 7, 3) := by decide +kernel
theorem dX9_read_70 : decode cX9_read 70 = .ok (.aload_n 0, 1) := by decide +kernel
theorem dX9_read_71 : decode cX9_read 71 = .ok (.invokevirtual 160, 3) := by decide +kernel
theorem dX9_read_74 : decode cX9_read 74 = .ok (.ireturn, 1) := by decide +kernel
theorem dX9_read_75 : decode cX9_read 75 = .ok (.aload_n 0, 1) := by decide +kernel
theorem dX9_read_76 : decode cX9_read 76 = .ok (.invokevirtual 147, 3) := by decide +kernel
theorem dX9_read_79 : decode cX9_read 79 = .ok (.ifCond .eq 13, 3) := by decide +kernel
theorem dX9_read_82 : decode cX9_read 82 = .ok (.aload_n 0, 1) := by decide +kernel
theorem dX9_read_83 : decode cX9_read 83 = .ok (.getfield 39, 3) := by decide +kernel
theorem dX9_read_86 : decode cX9_read 86 = .ok (.bipush 8, 2) := by decide +kernel
theorem dX9_read_88 : decode cX9_read 88 = .ok (.ishr, 1) := by decide +kernel
theorem dX9_read_89 : decode cX9_read 89 = .ok (.goto 7, 3) := by decide +kernel
theorem dX9_read_92 : decode cX9_read 92 = .ok (.aload_n 0, 1) := by decide +kernel
theorem dX9_read_93 : decode cX9_read 93 = .ok (.getfield 45, 3) := by decide +kernel
theorem dX9_read_96 : decode cX9_read 96 = .ok (.ireturn, 1) := by decide +kernel
theorem dX9_read_97 : decode cX9_read 97 = .ok (.aload_n 0, 1) := by decide +kernel
theorem dX9_read_98 : decode cX9_read 98 = .ok (.invokevirtual 163, 3) := by decide +kernel
theorem dX9_read_101 : decode cX9_read 101 = .ok (.istore_n 2, 1) := by decide +kernel
theorem dX9_read_102 : decode cX9_read 102 = .ok (.iload_n 2, 1) := by decide +kernel
theorem dX9_read_103 : decode cX9_read 103 = .ok (.iconst 2, 1) := by decide +kernel
theorem dX9_read_104 : decode cX9_read 104 = .ok (.if_icmp .ne 8, 3) := by decide +kernel
theorem dX9_read_107 : decode cX9_read 107 = .ok (.aload_n 0, 1) := by decide +kernel
theorem dX9_read_108 : decode cX9_read 108 = .ok (.iconst 0, 1) := by decide +kernel
theorem dX9_read_109 : decode cX9_read 109 = .ok (.putfield 79, 3) := by decide +kernel
theorem dX9_read_112 : decode cX9_read 112 = .ok (.iload_n 2, 1) := by decide +kernel
theorem dX9_read_113 : decode cX9_read 113 = .ok (.aload_n 0, 1) := by decide +kernel
theorem dX9_read_114 : decode cX9_read 114 = .ok (.getfield 48, 3) := by decide +kernel
theorem dX9_read_117 : decode cX9_read 117 = .ok (.ifCond .eq 9, 3) := by decide +kernel
theorem dX9_read_120 : decode cX9_read 120 = .ok (.sipush 192, 3) := by decide +kernel
theorem dX9_read_123 : decode cX9_read 123 = .ok (.goto 4, 3) := by decide +kernel
theorem dX9_read_126 : decode cX9_read 126 = .ok (.iconst 0, 1) := by decide +kernel
theorem dX9_read_127 : decode cX9_read 127 = .ok (.ior, 1) := by decide +kernel
theorem dX9_read_128 : decode cX9_read 128 = .ok (.ireturn, 1) := by decide +kernel
theorem dX9_read_129 : decode cX9_read 129 = .ok (.aload_n 0, 1) := by decide +kernel
theorem dX9_read_130 : decode cX9_read 130 = .ok (.getfield 55, 3) := by decide +kernel
theorem dX9_read_133 : decode cX9_read 133 = .ok (.ireturn, 1) := by decide +kernel
theorem dX9_read_134 : decode cX9_read 134 = .ok (.aload_n 0, 1) := by decide +kernel
theorem dX9_read_135 : decode cX9_read 135 = .ok (.getfield 58, 3) := by decide +kernel
theorem dX9_read_138 : decode cX9_read 138 = .ok (.ireturn, 1) := by decide +kernel
theorem dX9_read_139 : decode cX9_read 139 = .ok (.aload_n 0, 1) := by decide +kernel
theorem dX9_read_140 : decode cX9_read 140 = .ok (.invokevirtual 166, 3) := by decide +kernel
theorem dX9_read_143 : decode cX9_read 143 = .ok (.ireturn, 1) := by decide +kernel
theorem dX9_read_144 : decode cX9_read 144 = .ok (.aload_n 0, 1) := by decide +kernel
theorem dX9_read_145 : decode cX9_read 145 = .ok (.getfield 67, 3) := by decide +kernel
theorem dX9_read_148 : decode cX9_read 148 = .ok (.aload_n 0, 1) := by decide +kernel
theorem dX9_read_149 : decode cX9_read 149 = .ok (.invokevirtual 139, 3) := by decide +kernel
theorem dX9_read_152 : decode cX9_read 152 = .ok (.iconst 4, 1) := by decide +kernel
theorem dX9_read_153 : decode cX9_read 153 = .ok (.ishl, 1) := by decide +kernel
theorem dX9_read_154 : decode cX9_read 154 = .ok (.ior, 1) := by decide +kernel
theorem dX9_read_155 : decode cX9_read 155 = .ok (.istore_n 2, 1) := by decide +kernel
theorem dX9_read_156 : decode cX9_read 156 = .ok (.aload_n 0, 1) := by decide +kernel
theorem dX9_read_157 : decode cX9_read 157 = .ok (.iconst 0, 1) := by decide +kernel
theorem dX9_read_158 : decode cX9_read 158 = .ok (.putfield 67, 3) := by decide +kernel
theorem dX9_read_161 : decode cX9_read 161 = .ok (.iload_n 2, 1) := by decide +kernel
theorem dX9_read_162 : decode cX9_read 162 = .ok (.ireturn, 1) := by decide +kernel
theorem dX9_read_163 : decode cX9_read 163 = .ok (.aload_n 0, 1) := by decide +kernel
theorem dX9_read_164 : decode cX9_read 164 = .ok (.getfield 61, 3) := by decide +kernel
theorem dX9_read_167 : decode cX9_read 167 = .ok (.ireturn, 1) := by decide +kernel
theorem dX9_read_168 : decode cX9_read 168 = .ok (.aload_n 0, 1) := by decide +kernel
theorem dX9_read_169 : decode cX9_read 169 = .ok (.iconst 1, 1) := by decide +kernel
theorem dX9_read_170 : decode cX9_read 170 = .ok (.putfield 35, 3) := by decide +kernel
theorem dX9_read_173 : decode cX9_read 173 = .ok (.iconst 0, 1) := by decide +kernel
theorem dX9_read_174 : decode cX9_read 174 = .ok (.ireturn, 1) := by decide +kernel
set_option maxRecDepth 20000 in
theorem ggX9_read_X9_dlab : GoodIn wsX9_read wsX9_dlab := goodIn_r _ [14, 6, 49, 50, 51, 52, 53, 54, 55, 56, 57, 58, 59, 60, 61, 62, 63, 64, 65, 66, 67, 68, 69, 70, 71, 72, 73, 74, 75, 76, 77, 78, 79, 80, 81, 82, 83, 84, 85, 86, 87, 88] (by decide +kernel) (by decide +kernel)
set_option maxRecDepth 20000 in
theorem gX9_read_X9_dlab : GoodIn wsX9_read (wsV RX9 147 RX9 yX9_dlab wsX9_dlab) := goodIn_app (goodIn_of _ (by decide +kernel)) ggX9_read_X9_dlab
set_option maxRecDepth 20000 in
theorem ggX9_read_X9_take : GoodIn wsX9_read wsX9_take := goodIn_r _ [18, 19, 20, 21, 22, 23, 49, 50, 51, 52, 53, 54, 55, 56, 57, 58, 59, 60, 61, 62, 63, 64, 65, 66, 67, 68, 69, 70, 71, 72, 73, 74, 75, 76, 77, 78, 79, 80, 81, 82, 83, 84, 85, 86, 87, 88] (by decide +kernel) (by decide +kernel)
set_option maxRecDepth 20000 in
theorem gX9_read_X9_take : GoodIn wsX9_read (wsV RX9 160 RX9 yX9_take wsX9_take) := goodIn_app (goodIn_of _ (by decide +kernel)) ggX9_read_X9_take
set_option maxRecDepth 20000 in
theorem ggX9_read_X9_reason : GoodIn wsX9_read wsX9_reason := goodIn_r _ [27, 3, 28, 21, 5, 29, 19, 4, 8, 30, 31, 32, 13, 33, 23, 49, 50, 51, 52, 53, 54, 55, 56, 57, 58, 59, 60, 61, 62, 63, 64, 65, 66, 67, 68, 69, 70, 71, 72, 73, 74, 75, 76, 77, 78, 79, 80, 81, 82, 83, 84, 85, 86, 87, 88] (by decide +kernel) (by decide +kernel)
set_option maxRecDepth 20000 in
theorem gX9_read_X9_reason : GoodIn wsX9_read (wsV RX9 163 RX9 yX9_reason wsX9_reason) := goodIn_app (goodIn_of _ (by decide +kernel)) ggX9_read_X9_reason
set_option maxRecDepth 20000 in
theorem ggX9_read_X9_line : GoodIn wsX9_read wsX9_line := goodIn_r _ [37, 21, 28, 23, 38, 39, 5, 49, 50, 51, 52, 53, 54, 55, 56, 57, 58, 59, 60, 61, 62, 63, 64, 65, 66, 67, 68, 69, 70, 71, 72, 73, 74, 75, 76, 77, 78, 79, 80, 81, 82, 83, 84, 85, 86, 87, 88] (by decide +kernel) (by decide +kernel)
set_option maxRecDepth 20000 in
theorem gX9_read_X9_line : GoodIn wsX9_read (wsV RX9 166 RX9 yX9_line wsX9_line) := goodIn_app (goodIn_of _ (by decide +kernel)) ggX9_read_X9_line
set_option maxRecDepth 20000 in
theorem ggX9_read_X9_lines : GoodIn wsX9_read wsX9_lines := goodIn_r _ [43, 44, 7, 45, 46, 47, 13, 48, 49, 50, 51, 52, 53, 54, 55, 56, 57, 58, 59, 60, 61, 62, 63, 64, 65, 66, 67, 68, 69, 70, 71, 72, 73, 74, 75, 76, 77, 78, 79, 80, 81, 82, 83, 84, 85, 86, 87, 88] (by decide +kernel) (by decide +kernel)
set_option maxRecDepth 20000 in
theorem gX9_read_X9_lines : GoodIn wsX9_read (wsV RX9 139 RX9 yX9_lines wsX9_lines) := goodIn_app (goodIn_of _ (by decide +kernel)) ggX9_read_X9_lines
def F_X9_isMarked  (v_receivedMany : Int32) (v_marks_n : Nat) (v_marks_a : Nat → Int32) : Option (Bool) := if v_receivedMany ≤ 0 then (some false) else (gd (inR 0 v_marks_n = true) (if (v_marks_a (0 : Int32).toNatClampNeg) = 0 then (some false) else (some true)))
def wX9_isMarked (k_marks : ClassId) (h_ : Nat) (h_received : Nat) (h_marks : Nat) (h_sending : Nat) (h_waveHigh : Nat) (h_waveBeats : Nat) (h_runHigh : Nat) (h_runBeats : Nat) (v_divisor : Int32) (v_clocks : Int32) (v_wanted : Int32) (v_rowsOn : Bool) (v_level : Int32) (v_form : Int32) (v_outputs : Int32) (v_byteKept : Int32) (v_ins : Int32) (v_changed : Int32) (v_receivedMany : Int32) (v_overrun : Bool) (v_sendingMany : Int32) (v_emptyUp : Bool) (v_lateUp : Bool) (v_lateCount : Int32) (v_waveMany : Int32) (v_lineIn : Bool) (v_sends : Bool) (v_sentCharacter : Int32) (v_sentForm : Int32) (v_sentBeat : Int32) (v_senderHigh : Bool) (v_takes : Bool) (v_sawHigh : Bool) (v_takenForm : Int32) (v_takenBeat : Int32) (v_takenBits : Int32) (v_takenParity : Int32) (v_beats : Int32) (v_out : Bool) (v_runs : Int32) (v_thrown : Int32) (v_marks_n : Nat) (v_marks_a : Nat → Int32) (_u : Bool) : va_W := [oX9 h_ v_divisor v_clocks v_wanted v_rowsOn v_level v_form v_outputs v_byteKept v_ins v_changed h_received h_marks v_receivedMany v_overrun h_sending v_sendingMany v_emptyUp v_lateUp v_lateCount h_waveHigh h_waveBeats v_waveMany v_lineIn v_sends v_sentCharacter v_sentForm v_sentBeat v_senderHigh v_takes v_sawHigh v_takenForm v_takenBeat v_takenBits v_takenParity v_beats v_out h_runHigh h_runBeats v_runs v_thrown, aI h_marks k_marks v_marks_n v_marks_a]
set_option maxHeartbeats 4000000 in
set_option maxRecDepth 100000 in
theorem mX9_isMarked {l : Launch} (D : va_G) (k_marks : ClassId) (h_ : Nat) (h_received : Nat) (h_marks : Nat) (h_sending : Nat) (h_waveHigh : Nat) (h_waveBeats : Nat) (h_runHigh : Nat) (h_runBeats : Nat) (v_divisor : Int32) (v_clocks : Int32) (v_wanted : Int32) (v_rowsOn : Bool) (v_level : Int32) (v_form : Int32) (v_outputs : Int32) (v_byteKept : Int32) (v_ins : Int32) (v_changed : Int32) (v_receivedMany : Int32) (v_overrun : Bool) (v_sendingMany : Int32) (v_emptyUp : Bool) (v_lateUp : Bool) (v_lateCount : Int32) (v_waveMany : Int32) (v_lineIn : Bool) (v_sends : Bool) (v_sentCharacter : Int32) (v_sentForm : Int32) (v_sentBeat : Int32) (v_senderHigh : Bool) (v_takes : Bool) (v_sawHigh : Bool) (v_takenForm : Int32) (v_takenBeat : Int32) (v_takenBits : Int32) (v_takenParity : Int32) (v_beats : Int32) (v_out : Bool) (v_runs : Int32) (v_thrown : Int32) (v_marks_n : Nat) (v_marks_a : Nat → Int32) (u0 : Bool) (hF : F_X9_isMarked v_receivedMany v_marks_n v_marks_a = some u0) : MI l yX9_isMarked wsX9_isMarked { frames := 0, cells := 0, slots := 0, locals := 0 } D [(k_marks, .int)] [.ref h_] [oX9 h_ v_divisor v_clocks v_wanted v_rowsOn v_level v_form v_outputs v_byteKept v_ins v_changed h_received h_marks v_receivedMany v_overrun h_sending v_sendingMany v_emptyUp v_lateUp v_lateCount h_waveHigh h_waveBeats v_waveMany v_lineIn v_sends v_sentCharacter v_sentForm v_sentBeat v_senderHigh v_takes v_sawHigh v_takenForm v_takenBeat v_takenBits v_takenParity v_beats v_out h_runHigh h_runBeats v_runs v_thrown, aI h_marks k_marks v_marks_n v_marks_a] (wX9_isMarked k_marks h_ h_received h_marks h_sending h_waveHigh h_waveBeats h_runHigh h_runBeats v_divisor v_clocks v_wanted v_rowsOn v_level v_form v_outputs v_byteKept v_ins v_changed v_receivedMany v_overrun v_sendingMany v_emptyUp v_lateUp v_lateCount v_waveMany v_lineIn v_sends v_sentCharacter v_sentForm v_sentBeat v_senderHigh v_takes v_sawHigh v_takenForm v_takenBeat v_takenBits v_takenParity v_beats v_out v_runs v_thrown v_marks_n v_marks_a u0) (bI u0) := by
  refine MI.ofW (cc := cX9_isMarked) (maxL := 1) (ret := (some .boolean)) (lv := [(0, .ref h_)]) (by decide +kernel) rfl (Nat.le_of_ble_eq_true rfl) rfl ?_
  intro p e s m args below meth c A ls hx hb hr hml hts hown hlocks hA hK hP hD hS hl
  replace hown : s.vm.findClass RX9 = some m.cls := hown
  have i_X9 : ∀ w ∈ wsX90, w ∈ wsX9_isMarked := by decide +kernel
  have f_13 := hts (.fieldLink RX9 13 "SerialPortModel" "marks" "[I") (by decide +kernel)
  have f_70 := hts (.fieldLink RX9 70 "SerialPortModel" "receivedMany" "I") (by decide +kernel)
  have hret : ∀ (u : Bool) (v : Int32) (H : Heap) (locs : List Loc) (pc : Nat) (ls : Array Slot), va_P D vwCl (wX9_isMarked k_marks h_ h_received h_marks h_sending h_waveHigh h_waveBeats h_runHigh h_runBeats v_divisor v_clocks v_wanted v_rowsOn v_level v_form v_outputs v_byteKept v_ins v_changed v_receivedMany v_overrun v_sendingMany v_emptyUp v_lateUp v_lateCount v_waveMany v_lineIn v_sends v_sentCharacter v_sentForm v_sentBeat v_senderHigh v_takes v_sawHigh v_takenForm v_takenBeat v_takenBits v_takenParity v_beats v_out v_runs v_thrown v_marks_n v_marks_a u) H → va_D A (wX9_isMarked k_marks h_ h_received h_marks h_sending h_waveHigh h_waveBeats h_runHigh h_runBeats v_divisor v_clocks v_wanted v_rowsOn v_level v_form v_outputs v_byteKept v_ins v_changed v_receivedMany v_overrun v_sendingMany v_emptyUp v_lateUp v_lateCount v_waveMany v_lineIn v_sends v_sentCharacter v_sentForm v_sentBeat v_senderHigh v_takes v_sawHigh v_takenForm v_takenBeat v_takenBits v_takenParity v_beats v_out v_runs v_thrown v_marks_n v_marks_a u) → va_S A s.heap H locs → some u = some u0 → v = bI u → decode cX9_isMarked pc = .ok (.ireturn, 1) → W p l e { frames := 0, cells := 0, slots := 0, locals := 0 } s m args below meth c H locs 0 0 (QI below D [(k_marks, .int)] (wX9_isMarked k_marks h_ h_received h_marks h_sending h_waveHigh h_waveBeats h_runHigh h_runBeats v_divisor v_clocks v_wanted v_rowsOn v_level v_form v_outputs v_byteKept v_ins v_changed v_receivedMany v_overrun v_sendingMany v_emptyUp v_lateUp v_lateCount v_waveMany v_lineIn v_sends v_sentCharacter v_sentForm v_sentBeat v_senderHigh v_takes v_sawHigh v_takenForm v_takenBeat v_takenBits v_takenParity v_beats v_out v_runs v_thrown v_marks_n v_marks_a u0) (bI u0) args s A) (F0 m pc ls [.int v]) := fun u v H locs pc ls h1 h2 h3 h4 h5 h6 => rZ (wf := wX9_isMarked k_marks h_ h_received h_marks h_sending h_waveHigh h_waveBeats h_runHigh h_runBeats v_divisor v_clocks v_wanted v_rowsOn v_level v_form v_outputs v_byteKept v_ins v_changed v_receivedMany v_overrun v_sendingMany v_emptyUp v_lateUp v_lateCount v_waveMany v_lineIn v_sends v_sentCharacter v_sentForm v_sentBeat v_senderHigh v_takes v_sawHigh v_takenForm v_takenBeat v_takenBits v_takenParity v_beats v_out v_runs v_thrown v_marks_n v_marks_a) (rf := fun u => u) hx hb hr hlocks hK h1 h2 h3 h4 h5 h6
  unfold F_X9_isMarked at hF
  refine lv_aload_n hx hb dX9_isMarked_0 rfl (lv_at hl 0 rfl) ?_
  refine va_get (D := D) (ci := 8) (v := .int v_receivedMany) (C := RX9) (T := TX9) (N := 40) hx hb hts i_X9 hown hK hP 0 rfl rfl 12 (Nat.le_of_ble_eq_true rfl) f_70 (fun _ h9 => h9) rfl dX9_isMarked_1 ?_
  refine lv_if_le (tgt := 20) hx hb dX9_isMarked_4 (by decide) (fun c1 => ?_) (fun c1 => ?_)
  · replace hF := it_t c1 hF
    refine lv_iconst (v := 0) hx hb dX9_isMarked_20 (by decide) ?_
    exact hret false 0 _ _ 21 _ hP hD hS hF rfl dX9_isMarked_21
  · replace hF := it_f c1 hF
    refine lv_aload_n hx hb dX9_isMarked_7 rfl (lv_at hl 0 rfl) ?_
    refine va_get (D := D) (ci := 8) (v := .ref h_marks) (C := RX9) (T := TX9) (N := 40) hx hb hts i_X9 hown hK hP 0 rfl rfl 11 (Nat.le_of_ble_eq_true rfl) f_13 (fun _ h9 => h9) rfl dX9_isMarked_8 ?_
    refine lv_iconst (v := 0) hx hb dX9_isMarked_11 (by decide) ?_
    obtain ⟨g2, hF⟩ := gd_el hF
    refine va_iald hx hb hK hP 1 0 rfl rfl (inR_in g2) dX9_isMarked_12 ?_
    refine lv_if_eq (tgt := 20) hx hb dX9_isMarked_13 (by decide) (fun c3 => ?_) (fun c3 => ?_)
    · replace hF := it_t c3 hF
      refine lv_iconst (v := 0) hx hb dX9_isMarked_20 (by decide) ?_
      exact hret false 0 _ _ 21 _ hP hD hS hF rfl dX9_isMarked_21
    · replace hF := it_f c3 hF
      refine lv_iconst (v := 1) hx hb dX9_isMarked_16 (by decide) ?_
      refine lv_goto (tgt := 21) hx hb dX9_isMarked_17 (by decide) ?_
      exact hret true 1 _ _ 21 _ hP hD hS hF rfl dX9_isMarked_21
def F_X9_reason_94 (v_wanted : Int32) (v_rowsOn : Bool) (v_level : Int32) (v_changed : Int32) (v_receivedMany : Int32) (v_overrun : Bool) (v_emptyUp : Bool) (v_lateUp : Bool) (v_marks_n : Nat) (v_marks_a : Nat → Int32)  : Option (Int32) := if (v_wanted &&& 8) = 0 then (some (1 : Int32)) else (if v_changed = 0 then (some (1 : Int32)) else (some (0 : Int32)))
def F_X9_reason_76 (v_wanted : Int32) (v_rowsOn : Bool) (v_level : Int32) (v_changed : Int32) (v_receivedMany : Int32) (v_overrun : Bool) (v_emptyUp : Bool) (v_lateUp : Bool) (v_marks_n : Nat) (v_marks_a : Nat → Int32)  : Option (Int32) := if (v_wanted &&& 2) = 0 then (F_X9_reason_94 v_wanted v_rowsOn v_level v_changed v_receivedMany v_overrun v_emptyUp v_lateUp v_marks_n v_marks_a ) else (bt v_emptyUp (some (2 : Int32)) (F_X9_reason_94 v_wanted v_rowsOn v_level v_changed v_receivedMany v_overrun v_emptyUp v_lateUp v_marks_n v_marks_a ))
def F_X9_reason_54 (v_wanted : Int32) (v_rowsOn : Bool) (v_level : Int32) (v_changed : Int32) (v_receivedMany : Int32) (v_overrun : Bool) (v_emptyUp : Bool) (v_lateUp : Bool) (v_marks_n : Nat) (v_marks_a : Nat → Int32) (s0 : Int32) (s1 : Int32) : Option (Int32) := if s0 < s1 then (bt v_rowsOn (bt v_lateUp (some (12 : Int32)) (F_X9_reason_76 v_wanted v_rowsOn v_level v_changed v_receivedMany v_overrun v_emptyUp v_lateUp v_marks_n v_marks_a )) (F_X9_reason_76 v_wanted v_rowsOn v_level v_changed v_receivedMany v_overrun v_emptyUp v_lateUp v_marks_n v_marks_a )) else (some (4 : Int32))
def F_X9_reason_26 (v_wanted : Int32) (v_rowsOn : Bool) (v_level : Int32) (v_changed : Int32) (v_receivedMany : Int32) (v_overrun : Bool) (v_emptyUp : Bool) (v_lateUp : Bool) (v_marks_n : Nat) (v_marks_a : Nat → Int32)  : Option (Int32) := if (v_wanted &&& 1) = 0 then (F_X9_reason_76 v_wanted v_rowsOn v_level v_changed v_receivedMany v_overrun v_emptyUp v_lateUp v_marks_n v_marks_a ) else (bt v_rowsOn (F_X9_reason_54 v_wanted v_rowsOn v_level v_changed v_receivedMany v_overrun v_emptyUp v_lateUp v_marks_n v_marks_a v_receivedMany v_level) (F_X9_reason_54 v_wanted v_rowsOn v_level v_changed v_receivedMany v_overrun v_emptyUp v_lateUp v_marks_n v_marks_a v_receivedMany 1))
def F_X9_reason  (v_wanted : Int32) (v_rowsOn : Bool) (v_level : Int32) (v_changed : Int32) (v_receivedMany : Int32) (v_overrun : Bool) (v_emptyUp : Bool) (v_lateUp : Bool) (v_marks_n : Nat) (v_marks_a : Nat → Int32) : Option (Int32) := if (v_wanted &&& 4) = 0 then (F_X9_reason_26 v_wanted v_rowsOn v_level v_changed v_receivedMany v_overrun v_emptyUp v_lateUp v_marks_n v_marks_a ) else (bt v_overrun (some (6 : Int32)) (bd (F_X9_isMarked v_receivedMany v_marks_n v_marks_a) (fun u12 => bt u12 (some (6 : Int32)) (F_X9_reason_26 v_wanted v_rowsOn v_level v_changed v_receivedMany v_overrun v_emptyUp v_lateUp v_marks_n v_marks_a ))))
def wX9_reason (k_marks : ClassId) (h_ : Nat) (h_received : Nat) (h_marks : Nat) (h_sending : Nat) (h_waveHigh : Nat) (h_waveBeats : Nat) (h_runHigh : Nat) (h_runBeats : Nat) (v_divisor : Int32) (v_clocks : Int32) (v_wanted : Int32) (v_rowsOn : Bool) (v_level : Int32) (v_form : Int32) (v_outputs : Int32) (v_byteKept : Int32) (v_ins : Int32) (v_changed : Int32) (v_receivedMany : Int32) (v_overrun : Bool) (v_sendingMany : Int32) (v_emptyUp : Bool) (v_lateUp : Bool) (v_lateCount : Int32) (v_waveMany : Int32) (v_lineIn : Bool) (v_sends : Bool) (v_sentCharacter : Int32) (v_sentForm : Int32) (v_sentBeat : Int32) (v_senderHigh : Bool) (v_takes : Bool) (v_sawHigh : Bool) (v_takenForm : Int32) (v_takenBeat : Int32) (v_takenBits : Int32) (v_takenParity : Int32) (v_beats : Int32) (v_out : Bool) (v_runs : Int32) (v_thrown : Int32) (v_marks_n : Nat) (v_marks_a : Nat → Int32) (_u : Int32) : va_W := [oX9 h_ v_divisor v_clocks v_wanted v_rowsOn v_level v_form v_outputs v_byteKept v_ins v_changed h_received h_marks v_receivedMany v_overrun h_sending v_sendingMany v_emptyUp v_lateUp v_lateCount h_waveHigh h_waveBeats v_waveMany v_lineIn v_sends v_sentCharacter v_sentForm v_sentBeat v_senderHigh v_takes v_sawHigh v_takenForm v_takenBeat v_takenBits v_takenParity v_beats v_out h_runHigh h_runBeats v_runs v_thrown, aI h_marks k_marks v_marks_n v_marks_a]
set_option maxHeartbeats 4000000 in
set_option maxRecDepth 100000 in
theorem mX9_reason {l : Launch} (D : va_G) (k_marks : ClassId) (h_ : Nat) (h_received : Nat) (h_marks : Nat) (h_sending : Nat) (h_waveHigh : Nat) (h_waveBeats : Nat) (h_runHigh : Nat) (h_runBeats : Nat) (v_divisor : Int32) (v_clocks : Int32) (v_wanted : Int32) (v_rowsOn : Bool) (v_level : Int32) (v_form : Int32) (v_outputs : Int32) (v_byteKept : Int32) (v_ins : Int32) (v_changed : Int32) (v_receivedMany : Int32) (v_overrun : Bool) (v_sendingMany : Int32) (v_emptyUp : Bool) (v_lateUp : Bool) (v_lateCount : Int32) (v_waveMany : Int32) (v_lineIn : Bool) (v_sends : Bool) (v_sentCharacter : Int32) (v_sentForm : Int32) (v_sentBeat : Int32) (v_senderHigh : Bool) (v_takes : Bool) (v_sawHigh : Bool) (v_takenForm : Int32) (v_takenBeat : Int32) (v_takenBits : Int32) (v_takenParity : Int32) (v_beats : Int32) (v_out : Bool) (v_runs : Int32) (v_thrown : Int32) (v_marks_n : Nat) (v_marks_a : Nat → Int32) (u0 : Int32) (hF : F_X9_reason v_wanted v_rowsOn v_level v_changed v_receivedMany v_overrun v_emptyUp v_lateUp v_marks_n v_marks_a = some u0) : MI l yX9_reason wsX9_reason { frames := 1, cells := 0, slots := 0, locals := 20 } D [(k_marks, .int)] [.ref h_] [oX9 h_ v_divisor v_clocks v_wanted v_rowsOn v_level v_form v_outputs v_byteKept v_ins v_changed h_received h_marks v_receivedMany v_overrun h_sending v_sendingMany v_emptyUp v_lateUp v_lateCount h_waveHigh h_waveBeats v_waveMany v_lineIn v_sends v_sentCharacter v_sentForm v_sentBeat v_senderHigh v_takes v_sawHigh v_takenForm v_takenBeat v_takenBits v_takenParity v_beats v_out h_runHigh h_runBeats v_runs v_thrown, aI h_marks k_marks v_marks_n v_marks_a] (wX9_reason k_marks h_ h_received h_marks h_sending h_waveHigh h_waveBeats h_runHigh h_runBeats v_divisor v_clocks v_wanted v_rowsOn v_level v_form v_outputs v_byteKept v_ins v_changed v_receivedMany v_overrun v_sendingMany v_emptyUp v_lateUp v_lateCount v_waveMany v_lineIn v_sends v_sentCharacter v_sentForm v_sentBeat v_senderHigh v_takes v_sawHigh v_takenForm v_takenBeat v_takenBits v_takenParity v_beats v_out v_runs v_thrown v_marks_n v_marks_a u0) (u0) := by
  refine MI.ofW (cc := cX9_reason) (maxL := 1) (ret := (some .int)) (lv := [(0, .ref h_)]) (by decide +kernel) rfl (Nat.le_of_ble_eq_true rfl) rfl ?_
  intro p e s m args below meth c A ls hx hb hr hml hts hown hlocks hA hK hP hD hS hl
  replace hown : s.vm.findClass RX9 = some m.cls := hown
  have i_X9 : ∀ w ∈ wsX90, w ∈ wsX9_reason := by decide +kernel
  have f_45 := hts (.fieldLink RX9 45 "SerialPortModel" "wanted" "I") (by decide +kernel)
  have f_48 := hts (.fieldLink RX9 48 "SerialPortModel" "rowsOn" "Z") (by decide +kernel)
  have f_52 := hts (.fieldLink RX9 52 "SerialPortModel" "level" "I") (by decide +kernel)
  have f_67 := hts (.fieldLink RX9 67 "SerialPortModel" "changed" "I") (by decide +kernel)
  have f_70 := hts (.fieldLink RX9 70 "SerialPortModel" "receivedMany" "I") (by decide +kernel)
  have f_73 := hts (.fieldLink RX9 73 "SerialPortModel" "overrun" "Z") (by decide +kernel)
  have f_79 := hts (.fieldLink RX9 79 "SerialPortModel" "emptyUp" "Z") (by decide +kernel)
  have f_82 := hts (.fieldLink RX9 82 "SerialPortModel" "lateUp" "Z") (by decide +kernel)
  have hret : ∀ (u : Int32) (v : Int32) (H : Heap) (locs : List Loc) (pc : Nat) (ls : Array Slot), va_P D vwCl (wX9_reason k_marks h_ h_received h_marks h_sending h_waveHigh h_waveBeats h_runHigh h_runBeats v_divisor v_clocks v_wanted v_rowsOn v_level v_form v_outputs v_byteKept v_ins v_changed v_receivedMany v_overrun v_sendingMany v_emptyUp v_lateUp v_lateCount v_waveMany v_lineIn v_sends v_sentCharacter v_sentForm v_sentBeat v_senderHigh v_takes v_sawHigh v_takenForm v_takenBeat v_takenBits v_takenParity v_beats v_out v_runs v_thrown v_marks_n v_marks_a u) H → va_D A (wX9_reason k_marks h_ h_received h_marks h_sending h_waveHigh h_waveBeats h_runHigh h_runBeats v_divisor v_clocks v_wanted v_rowsOn v_level v_form v_outputs v_byteKept v_ins v_changed v_receivedMany v_overrun v_sendingMany v_emptyUp v_lateUp v_lateCount v_waveMany v_lineIn v_sends v_sentCharacter v_sentForm v_sentBeat v_senderHigh v_takes v_sawHigh v_takenForm v_takenBeat v_takenBits v_takenParity v_beats v_out v_runs v_thrown v_marks_n v_marks_a u) → va_S A s.heap H locs → some u = some u0 → v = u → decode cX9_reason pc = .ok (.ireturn, 1) → W p l e { frames := 1, cells := 0, slots := 0, locals := 20 } s m args below meth c H locs 0 0 (QI below D [(k_marks, .int)] (wX9_reason k_marks h_ h_received h_marks h_sending h_waveHigh h_waveBeats h_runHigh h_runBeats v_divisor v_clocks v_wanted v_rowsOn v_level v_form v_outputs v_byteKept v_ins v_changed v_receivedMany v_overrun v_sendingMany v_emptyUp v_lateUp v_lateCount v_waveMany v_lineIn v_sends v_sentCharacter v_sentForm v_sentBeat v_senderHigh v_takes v_sawHigh v_takenForm v_takenBeat v_takenBits v_takenParity v_beats v_out v_runs v_thrown v_marks_n v_marks_a u0) (u0) args s A) (F0 m pc ls [.int v]) := fun u v H locs pc ls h1 h2 h3 h4 h5 h6 => rI (wf := wX9_reason k_marks h_ h_received h_marks h_sending h_waveHigh h_waveBeats h_runHigh h_runBeats v_divisor v_clocks v_wanted v_rowsOn v_level v_form v_outputs v_byteKept v_ins v_changed v_receivedMany v_overrun v_sendingMany v_emptyUp v_lateUp v_lateCount v_waveMany v_lineIn v_sends v_sentCharacter v_sentForm v_sentBeat v_senderHigh v_takes v_sawHigh v_takenForm v_takenBeat v_takenBits v_takenParity v_beats v_out v_runs v_thrown v_marks_n v_marks_a) (rf := fun u => u) hx hb hr hlocks hK h1 h2 h3 h4 h5 h6
  have J94 : ∀  (H : Heap) (locs : List Loc) (ls : Array Slot), F_X9_reason_94 v_wanted v_rowsOn v_level v_changed v_receivedMany v_overrun v_emptyUp v_lateUp v_marks_n v_marks_a  = some u0 → lv_has ls 1 [(0, .ref h_)] → va_P D vwCl [oX9 h_ v_divisor v_clocks v_wanted v_rowsOn v_level v_form v_outputs v_byteKept v_ins v_changed h_received h_marks v_receivedMany v_overrun h_sending v_sendingMany v_emptyUp v_lateUp v_lateCount h_waveHigh h_waveBeats v_waveMany v_lineIn v_sends v_sentCharacter v_sentForm v_sentBeat v_senderHigh v_takes v_sawHigh v_takenForm v_takenBeat v_takenBits v_takenParity v_beats v_out h_runHigh h_runBeats v_runs v_thrown, aI h_marks k_marks v_marks_n v_marks_a] H → va_D A [oX9 h_ v_divisor v_clocks v_wanted v_rowsOn v_level v_form v_outputs v_byteKept v_ins v_changed h_received h_marks v_receivedMany v_overrun h_sending v_sendingMany v_emptyUp v_lateUp v_lateCount h_waveHigh h_waveBeats v_waveMany v_lineIn v_sends v_sentCharacter v_sentForm v_sentBeat v_senderHigh v_takes v_sawHigh v_takenForm v_takenBeat v_takenBits v_takenParity v_beats v_out h_runHigh h_runBeats v_runs v_thrown, aI h_marks k_marks v_marks_n v_marks_a] → va_S A s.heap H locs → W p l e { frames := 1, cells := 0, slots := 0, locals := 20 } s m args below meth c H locs 0 0 (QI below D [(k_marks, .int)] (wX9_reason k_marks h_ h_received h_marks h_sending h_waveHigh h_waveBeats h_runHigh h_runBeats v_divisor v_clocks v_wanted v_rowsOn v_level v_form v_outputs v_byteKept v_ins v_changed v_receivedMany v_overrun v_sendingMany v_emptyUp v_lateUp v_lateCount v_waveMany v_lineIn v_sends v_sentCharacter v_sentForm v_sentBeat v_senderHigh v_takes v_sawHigh v_takenForm v_takenBeat v_takenBits v_takenParity v_beats v_out v_runs v_thrown v_marks_n v_marks_a u0) (u0) args s A) (F0 m 94 ls []) := by
    intro  H locs ls hF hl hP hD hS
    unfold F_X9_reason_94 at hF
    refine lv_aload_n hx hb dX9_reason_94 rfl (lv_at hl 0 rfl) ?_
    refine va_get (D := D) (ci := 8) (v := .int v_wanted) (C := RX9) (T := TX9) (N := 40) hx hb hts i_X9 hown hK hP 0 rfl rfl 2 (Nat.le_of_ble_eq_true rfl) f_45 (fun _ h9 => h9) rfl dX9_reason_95 ?_
    refine lv_bipush (v := 8) hx hb dX9_reason_98 (by decide) ?_
    refine lv_iand hx hb dX9_reason_100 ?_
    refine lv_if_eq (tgt := 115) hx hb dX9_reason_101 (by decide) (fun c1 => ?_) (fun c1 => ?_)
    · replace hF := it_t c1 hF
      refine lv_iconst (v := 1) hx hb dX9_reason_115 (by decide) ?_
      exact hret (1 : Int32) 1 _ _ 116 _ hP hD hS hF rfl dX9_reason_116
    · replace hF := it_f c1 hF
      refine lv_aload_n hx hb dX9_reason_104 rfl (lv_at hl 0 rfl) ?_
      refine va_get (D := D) (ci := 8) (v := .int v_changed) (C := RX9) (T := TX9) (N := 40) hx hb hts i_X9 hown hK hP 0 rfl rfl 9 (Nat.le_of_ble_eq_true rfl) f_67 (fun _ h9 => h9) rfl dX9_reason_105 ?_
      refine lv_if_eq (tgt := 115) hx hb dX9_reason_108 (by decide) (fun c2 => ?_) (fun c2 => ?_)
      · replace hF := it_t c2 hF
        refine lv_iconst (v := 1) hx hb dX9_reason_115 (by decide) ?_
        exact hret (1 : Int32) 1 _ _ 116 _ hP hD hS hF rfl dX9_reason_116
      · replace hF := it_f c2 hF
        refine lv_iconst (v := 0) hx hb dX9_reason_111 (by decide) ?_
        refine lv_goto (tgt := 116) hx hb dX9_reason_112 (by decide) ?_
        exact hret (0 : Int32) 0 _ _ 116 _ hP hD hS hF rfl dX9_reason_116
  have J76 : ∀  (H : Heap) (locs : List Loc) (ls : Array Slot), F_X9_reason_76 v_wanted v_rowsOn v_level v_changed v_receivedMany v_overrun v_emptyUp v_lateUp v_marks_n v_marks_a  = some u0 → lv_has ls 1 [(0, .ref h_)] → va_P D vwCl [oX9 h_ v_divisor v_clocks v_wanted v_rowsOn v_level v_form v_outputs v_byteKept v_ins v_changed h_received h_marks v_receivedMany v_overrun h_sending v_sendingMany v_emptyUp v_lateUp v_lateCount h_waveHigh h_waveBeats v_waveMany v_lineIn v_sends v_sentCharacter v_sentForm v_sentBeat v_senderHigh v_takes v_sawHigh v_takenForm v_takenBeat v_takenBits v_takenParity v_beats v_out h_runHigh h_runBeats v_runs v_thrown, aI h_marks k_marks v_marks_n v_marks_a] H → va_D A [oX9 h_ v_divisor v_clocks v_wanted v_rowsOn v_level v_form v_outputs v_byteKept v_ins v_changed h_received h_marks v_receivedMany v_overrun h_sending v_sendingMany v_emptyUp v_lateUp v_lateCount h_waveHigh h_waveBeats v_waveMany v_lineIn v_sends v_sentCharacter v_sentForm v_sentBeat v_senderHigh v_takes v_sawHigh v_takenForm v_takenBeat v_takenBits v_takenParity v_beats v_out h_runHigh h_runBeats v_runs v_thrown, aI h_marks k_marks v_marks_n v_marks_a] → va_S A s.heap H locs → W p l e { frames := 1, cells := 0, slots := 0, locals := 20 } s m args below meth c H locs 0 0 (QI below D [(k_marks, .int)] (wX9_reason k_marks h_ h_received h_marks h_sending h_waveHigh h_waveBeats h_runHigh h_runBeats v_divisor v_clocks v_wanted v_rowsOn v_level v_form v_outputs v_byteKept v_ins v_changed v_receivedMany v_overrun v_sendingMany v_emptyUp v_lateUp v_lateCount v_waveMany v_lineIn v_sends v_sentCharacter v_sentForm v_sentBeat v_senderHigh v_takes v_sawHigh v_takenForm v_takenBeat v_takenBits v_takenParity v_beats v_out v_runs v_thrown v_marks_n v_marks_a u0) (u0) args s A) (F0 m 76 ls []) := by
    intro  H locs ls hF hl hP hD hS
    unfold F_X9_reason_76 at hF
    refine lv_aload_n hx hb dX9_reason_76 rfl (lv_at hl 0 rfl) ?_
    refine va_get (D := D) (ci := 8) (v := .int v_wanted) (C := RX9) (T := TX9) (N := 40) hx hb hts i_X9 hown hK hP 0 rfl rfl 2 (Nat.le_of_ble_eq_true rfl) f_45 (fun _ h9 => h9) rfl dX9_reason_77 ?_
    refine lv_iconst (v := 2) hx hb dX9_reason_80 (by decide) ?_
    refine lv_iand hx hb dX9_reason_81 ?_
    refine lv_if_eq (tgt := 94) hx hb dX9_reason_82 (by decide) (fun c3 => ?_) (fun c3 => ?_)
    · replace hF := it_t c3 hF
      exact J94  _ _ _ hF hl hP hD hS
    · replace hF := it_f c3 hF
      refine lv_aload_n hx hb dX9_reason_85 rfl (lv_at hl 0 rfl) ?_
      refine va_get (D := D) (ci := 8) (v := .int (bI v_emptyUp)) (C := RX9) (T := TX9) (N := 40) hx hb hts i_X9 hown hK hP 0 rfl rfl 16 (Nat.le_of_ble_eq_true rfl) f_79 (fun _ h9 => h9) rfl dX9_reason_86 ?_
      refine lv_if_eq (tgt := 94) hx hb dX9_reason_89 (by decide) (fun c4 => ?_) (fun c4 => ?_)
      · replace hF := bt_f (bI_0 c4) hF
        exact J94  _ _ _ hF hl hP hD hS
      · replace hF := bt_t (bI_n0 c4) hF
        refine lv_iconst (v := 2) hx hb dX9_reason_92 (by decide) ?_
        exact hret (2 : Int32) 2 _ _ 93 _ hP hD hS hF rfl dX9_reason_93
  have J54 : ∀ (s0 : Int32) (s1 : Int32) (H : Heap) (locs : List Loc) (ls : Array Slot), F_X9_reason_54 v_wanted v_rowsOn v_level v_changed v_receivedMany v_overrun v_emptyUp v_lateUp v_marks_n v_marks_a s0 s1 = some u0 → lv_has ls 1 [(0, .ref h_)] → va_P D vwCl [oX9 h_ v_divisor v_clocks v_wanted v_rowsOn v_level v_form v_outputs v_byteKept v_ins v_changed h_received h_marks v_receivedMany v_overrun h_sending v_sendingMany v_emptyUp v_lateUp v_lateCount h_waveHigh h_waveBeats v_waveMany v_lineIn v_sends v_sentCharacter v_sentForm v_sentBeat v_senderHigh v_takes v_sawHigh v_takenForm v_takenBeat v_takenBits v_takenParity v_beats v_out h_runHigh h_runBeats v_runs v_thrown, aI h_marks k_marks v_marks_n v_marks_a] H → va_D A [oX9 h_ v_divisor v_clocks v_wanted v_rowsOn v_level v_form v_outputs v_byteKept v_ins v_changed h_received h_marks v_receivedMany v_overrun h_sending v_sendingMany v_emptyUp v_lateUp v_lateCount h_waveHigh h_waveBeats v_waveMany v_lineIn v_sends v_sentCharacter v_sentForm v_sentBeat v_senderHigh v_takes v_sawHigh v_takenForm v_takenBeat v_takenBits v_takenParity v_beats v_out h_runHigh h_runBeats v_runs v_thrown, aI h_marks k_marks v_marks_n v_marks_a] → va_S A s.heap H locs → W p l e { frames := 1, cells := 0, slots := 0, locals := 20 } s m args below meth c H locs 0 0 (QI below D [(k_marks, .int)] (wX9_reason k_marks h_ h_received h_marks h_sending h_waveHigh h_waveBeats h_runHigh h_runBeats v_divisor v_clocks v_wanted v_rowsOn v_level v_form v_outputs v_byteKept v_ins v_changed v_receivedMany v_overrun v_sendingMany v_emptyUp v_lateUp v_lateCount v_waveMany v_lineIn v_sends v_sentCharacter v_sentForm v_sentBeat v_senderHigh v_takes v_sawHigh v_takenForm v_takenBeat v_takenBits v_takenParity v_beats v_out v_runs v_thrown v_marks_n v_marks_a u0) (u0) args s A) (F0 m 54 ls [.int s1, .int s0]) := by
    intro s0 s1 H locs ls hF hl hP hD hS
    unfold F_X9_reason_54 at hF
    refine lv_icmp_lt (tgt := 59) hx hb dX9_reason_54 (by decide) (fun c5 => ?_) (fun c5 => ?_)
    · replace hF := it_t c5 hF
      refine lv_aload_n hx hb dX9_reason_59 rfl (lv_at hl 0 rfl) ?_
      refine va_get (D := D) (ci := 8) (v := .int (bI v_rowsOn)) (C := RX9) (T := TX9) (N := 40) hx hb hts i_X9 hown hK hP 0 rfl rfl 3 (Nat.le_of_ble_eq_true rfl) f_48 (fun _ h9 => h9) rfl dX9_reason_60 ?_
      refine lv_if_eq (tgt := 76) hx hb dX9_reason_63 (by decide) (fun c6 => ?_) (fun c6 => ?_)
      · replace hF := bt_f (bI_0 c6) hF
        exact J76  _ _ _ hF hl hP hD hS
      · replace hF := bt_t (bI_n0 c6) hF
        refine lv_aload_n hx hb dX9_reason_66 rfl (lv_at hl 0 rfl) ?_
        refine va_get (D := D) (ci := 8) (v := .int (bI v_lateUp)) (C := RX9) (T := TX9) (N := 40) hx hb hts i_X9 hown hK hP 0 rfl rfl 17 (Nat.le_of_ble_eq_true rfl) f_82 (fun _ h9 => h9) rfl dX9_reason_67 ?_
        refine lv_if_eq (tgt := 76) hx hb dX9_reason_70 (by decide) (fun c7 => ?_) (fun c7 => ?_)
        · replace hF := bt_f (bI_0 c7) hF
          exact J76  _ _ _ hF hl hP hD hS
        · replace hF := bt_t (bI_n0 c7) hF
          refine lv_bipush (v := 12) hx hb dX9_reason_73 (by decide) ?_
          exact hret (12 : Int32) 12 _ _ 75 _ hP hD hS hF rfl dX9_reason_75
    · replace hF := it_f c5 hF
      refine lv_iconst (v := 4) hx hb dX9_reason_57 (by decide) ?_
      exact hret (4 : Int32) 4 _ _ 58 _ hP hD hS hF rfl dX9_reason_58
  have J26 : ∀  (H : Heap) (locs : List Loc) (ls : Array Slot), F_X9_reason_26 v_wanted v_rowsOn v_level v_changed v_receivedMany v_overrun v_emptyUp v_lateUp v_marks_n v_marks_a  = some u0 → lv_has ls 1 [(0, .ref h_)] → va_P D vwCl [oX9 h_ v_divisor v_clocks v_wanted v_rowsOn v_level v_form v_outputs v_byteKept v_ins v_changed h_received h_marks v_receivedMany v_overrun h_sending v_sendingMany v_emptyUp v_lateUp v_lateCount h_waveHigh h_waveBeats v_waveMany v_lineIn v_sends v_sentCharacter v_sentForm v_sentBeat v_senderHigh v_takes v_sawHigh v_takenForm v_takenBeat v_takenBits v_takenParity v_beats v_out h_runHigh h_runBeats v_runs v_thrown, aI h_marks k_marks v_marks_n v_marks_a] H → va_D A [oX9 h_ v_divisor v_clocks v_wanted v_rowsOn v_level v_form v_outputs v_byteKept v_ins v_changed h_received h_marks v_receivedMany v_overrun h_sending v_sendingMany v_emptyUp v_lateUp v_lateCount h_waveHigh h_waveBeats v_waveMany v_lineIn v_sends v_sentCharacter v_sentForm v_sentBeat v_senderHigh v_takes v_sawHigh v_takenForm v_takenBeat v_takenBits v_takenParity v_beats v_out h_runHigh h_runBeats v_runs v_thrown, aI h_marks k_marks v_marks_n v_marks_a] → va_S A s.heap H locs → W p l e { frames := 1, cells := 0, slots := 0, locals := 20 } s m args below meth c H locs 0 0 (QI below D [(k_marks, .int)] (wX9_reason k_marks h_ h_received h_marks h_sending h_waveHigh h_waveBeats h_runHigh h_runBeats v_divisor v_clocks v_wanted v_rowsOn v_level v_form v_outputs v_byteKept v_ins v_changed v_receivedMany v_overrun v_sendingMany v_emptyUp v_lateUp v_lateCount v_waveMany v_lineIn v_sends v_sentCharacter v_sentForm v_sentBeat v_senderHigh v_takes v_sawHigh v_takenForm v_takenBeat v_takenBits v_takenParity v_beats v_out v_runs v_thrown v_marks_n v_marks_a u0) (u0) args s A) (F0 m 26 ls []) := by
    intro  H locs ls hF hl hP hD hS
    unfold F_X9_reason_26 at hF
    refine lv_aload_n hx hb dX9_reason_26 rfl (lv_at hl 0 rfl) ?_
    refine va_get (D := D) (ci := 8) (v := .int v_wanted) (C := RX9) (T := TX9) (N := 40) hx hb hts i_X9 hown hK hP 0 rfl rfl 2 (Nat.le_of_ble_eq_true rfl) f_45 (fun _ h9 => h9) rfl dX9_reason_27 ?_
    refine lv_iconst (v := 1) hx hb dX9_reason_30 (by decide) ?_
    refine lv_iand hx hb dX9_reason_31 ?_
    refine lv_if_eq (tgt := 76) hx hb dX9_reason_32 (by decide) (fun c8 => ?_) (fun c8 => ?_)
    · replace hF := it_t c8 hF
      exact J76  _ _ _ hF hl hP hD hS
    · replace hF := it_f c8 hF
      refine lv_aload_n hx hb dX9_reason_35 rfl (lv_at hl 0 rfl) ?_
      refine va_get (D := D) (ci := 8) (v := .int v_receivedMany) (C := RX9) (T := TX9) (N := 40) hx hb hts i_X9 hown hK hP 0 rfl rfl 12 (Nat.le_of_ble_eq_true rfl) f_70 (fun _ h9 => h9) rfl dX9_reason_36 ?_
      refine lv_aload_n hx hb dX9_reason_39 rfl (lv_at hl 0 rfl) ?_
      refine va_get (D := D) (ci := 8) (v := .int (bI v_rowsOn)) (C := RX9) (T := TX9) (N := 40) hx hb hts i_X9 hown hK hP 0 rfl rfl 3 (Nat.le_of_ble_eq_true rfl) f_48 (fun _ h9 => h9) rfl dX9_reason_40 ?_
      refine lv_if_eq (tgt := 53) hx hb dX9_reason_43 (by decide) (fun c9 => ?_) (fun c9 => ?_)
      · replace hF := bt_f (bI_0 c9) hF
        refine lv_iconst (v := 1) hx hb dX9_reason_53 (by decide) ?_
        exact J54 v_receivedMany 1 _ _ _ hF hl hP hD hS
      · replace hF := bt_t (bI_n0 c9) hF
        refine lv_aload_n hx hb dX9_reason_46 rfl (lv_at hl 0 rfl) ?_
        refine va_get (D := D) (ci := 8) (v := .int v_level) (C := RX9) (T := TX9) (N := 40) hx hb hts i_X9 hown hK hP 0 rfl rfl 4 (Nat.le_of_ble_eq_true rfl) f_52 (fun _ h9 => h9) rfl dX9_reason_47 ?_
        refine lv_goto (tgt := 54) hx hb dX9_reason_50 (by decide) ?_
        exact J54 v_receivedMany v_level _ _ _ hF hl hP hD hS
  unfold F_X9_reason at hF
  refine lv_aload_n hx hb dX9_reason_0 rfl (lv_at hl 0 rfl) ?_
  refine va_get (D := D) (ci := 8) (v := .int v_wanted) (C := RX9) (T := TX9) (N := 40) hx hb hts i_X9 hown hK hP 0 rfl rfl 2 (Nat.le_of_ble_eq_true rfl) f_45 (fun _ h9 => h9) rfl dX9_reason_1 ?_
  refine lv_iconst (v := 4) hx hb dX9_reason_4 (by decide) ?_
  refine lv_iand hx hb dX9_reason_5 ?_
  refine lv_if_eq (tgt := 26) hx hb dX9_reason_6 (by decide) (fun c10 => ?_) (fun c10 => ?_)
  · replace hF := it_t c10 hF
    exact J26  _ _ _ hF hl hP hD hS
  · replace hF := it_f c10 hF
    refine lv_aload_n hx hb dX9_reason_9 rfl (lv_at hl 0 rfl) ?_
    refine va_get (D := D) (ci := 8) (v := .int (bI v_overrun)) (C := RX9) (T := TX9) (N := 40) hx hb hts i_X9 hown hK hP 0 rfl rfl 13 (Nat.le_of_ble_eq_true rfl) f_73 (fun _ h9 => h9) rfl dX9_reason_10 ?_
    refine lv_if_ne (tgt := 23) hx hb dX9_reason_13 (by decide) (fun c11 => ?_) (fun c11 => ?_)
    · replace hF := bt_t (bI_n0 c11) hF
      refine lv_bipush (v := 6) hx hb dX9_reason_23 (by decide) ?_
      exact hret (6 : Int32) 6 _ _ 25 _ hP hD hS hF rfl dX9_reason_25
    · replace hF := bt_f (bI_0 c11) hF
      refine lv_aload_n hx hb dX9_reason_16 rfl (lv_at hl 0 rfl) ?_
      obtain ⟨u12, hu12, hF⟩ := bd_el hF
      refine cVI (q0 := 0) (ci := 8) (As := []) (rest := []) (wr := []) (ws' := [oX9 h_ v_divisor v_clocks v_wanted v_rowsOn v_level v_form v_outputs v_byteKept v_ins v_changed h_received h_marks v_receivedMany v_overrun h_sending v_sendingMany v_emptyUp v_lateUp v_lateCount h_waveHigh h_waveBeats v_waveMany v_lineIn v_sends v_sentCharacter v_sentForm v_sentBeat v_senderHigh v_takes v_sawHigh v_takenForm v_takenBeat v_takenBits v_takenParity v_beats v_out h_runHigh h_runBeats v_runs v_thrown, aI h_marks k_marks v_marks_n v_marks_a]) (rv := bI u12) ⟨hx, hb, hml, hown, hts⟩ (mX9_isMarked D k_marks h_ h_received h_marks h_sending h_waveHigh h_waveBeats h_runHigh h_runBeats v_divisor v_clocks v_wanted v_rowsOn v_level v_form v_outputs v_byteKept v_ins v_changed v_receivedMany v_overrun v_sendingMany v_emptyUp v_lateUp v_lateCount v_waveMany v_lineIn v_sends v_sentCharacter v_sentForm v_sentBeat v_senderHigh v_takes v_sawHigh v_takenForm v_takenBeat v_takenBits v_takenParity v_beats v_out v_runs v_thrown v_marks_n v_marks_a u12 hu12) (cwV 0 hts gX9_reason_X9_isMarked rfl rfl rfl (by decide +kernel) ⟨Nat.le_of_ble_eq_true rfl, Nat.le_of_ble_eq_true rfl⟩) hK hP hD hS hA [0] [0, 1] [] [0, 1] rfl rfl rfl rfl rfl rfl rfl rfl rfl hl.1 rfl (Nat.le_of_ble_eq_true rfl) rfl dX9_reason_17 ⟨Nat.le_refl _, Nat.le_refl _⟩ (fun H locs hP hD hS => ?_)
      refine lv_if_eq (tgt := 26) hx hb dX9_reason_20 (by decide) (fun c13 => ?_) (fun c13 => ?_)
      · replace hF := bt_f (bI_0 c13) hF
        exact J26  _ _ _ hF hl hP hD hS
      · replace hF := bt_t (bI_n0 c13) hF
        refine lv_bipush (v := 6) hx hb dX9_reason_23 (by decide) ?_
        exact hret (6 : Int32) 6 _ _ 25 _ hP hD hS hF rfl dX9_reason_25
def F_X9_line_135 (v_rowsOn : Bool) (v_receivedMany : Int32) (v_sendingMany : Int32) (v_sends : Bool) (v_marks_n : Nat) (l1 : Int32) (v_overrun : Bool) (v_marks_a : Nat → Int32) : Option (Int32 × Bool × (Nat → Int32)) := if v_receivedMany ≤ 0 then (some (l1, false, v_marks_a)) else (gd (inR 0 v_marks_n = true) (some (l1, false, upd v_marks_a ((0 : Int32).toNatClampNeg) 0)))
def F_X9_line_85_s (rec : Int32 → Bool → Int32 → Bool → (Nat → Int32) → Option (Int32 × Bool × (Nat → Int32))) (v_rowsOn : Bool) (v_receivedMany : Int32) (v_sendingMany : Int32) (v_sends : Bool) (v_marks_n : Nat) (l1 : Int32) (l2 : Bool) (l3 : Int32) (v_overrun : Bool) (v_marks_a : Nat → Int32) : Option (Int32 × Bool × (Nat → Int32)) := if v_receivedMany ≤ l3 then (bt v_rowsOn (bt l2 (lt1 (l1 ||| 128) (fun x6 => F_X9_line_135 v_rowsOn v_receivedMany v_sendingMany v_sends v_marks_n x6 v_overrun v_marks_a)) (F_X9_line_135 v_rowsOn v_receivedMany v_sendingMany v_sends v_marks_n l1 v_overrun v_marks_a)) (F_X9_line_135 v_rowsOn v_receivedMany v_sendingMany v_sends v_marks_n l1 v_overrun v_marks_a)) else (bt l2 (lt1 (l3 + 1) (fun x8 => rec l1 true x8 v_overrun v_marks_a)) (gd (inR l3 v_marks_n = true) (if (v_marks_a l3.toNatClampNeg) = 0 then (lt1 (l3 + 1) (fun x11 => rec l1 false x11 v_overrun v_marks_a)) else (lt1 (l3 + 1) (fun x12 => rec l1 true x12 v_overrun v_marks_a)))))
def F_X9_line_85 (v_rowsOn : Bool) (v_receivedMany : Int32) (v_sendingMany : Int32) (v_sends : Bool) (v_marks_n : Nat) : Nat → Int32 → Bool → Int32 → Bool → (Nat → Int32) → Option (Int32 × Bool × (Nat → Int32))
  | 0 => fun _ _ _ _ _ => none
  | n + 1 => F_X9_line_85_s (F_X9_line_85 v_rowsOn v_receivedMany v_sendingMany v_sends v_marks_n n) v_rowsOn v_receivedMany v_sendingMany v_sends v_marks_n
def F_X9_line_58 (v_rowsOn : Bool) (v_receivedMany : Int32) (v_sendingMany : Int32) (v_sends : Bool) (v_marks_n : Nat) (s0 : Int32) (s1 : Int32) (v_overrun : Bool) (v_marks_a : Nat → Int32) : Option (Int32 × Bool × (Nat → Int32)) := if v_sendingMany = 0 then (bt v_sends (lt1 (s0 ||| (s1 ||| 0)) (fun x16 => F_X9_line_85 v_rowsOn v_receivedMany v_sendingMany v_sends v_marks_n 100000 x16 false 0 v_overrun v_marks_a)) (lt1 (s0 ||| (s1 ||| 64)) (fun x17 => F_X9_line_85 v_rowsOn v_receivedMany v_sendingMany v_sends v_marks_n 100000 x17 false 0 v_overrun v_marks_a))) else (lt1 (s0 ||| (s1 ||| 0)) (fun x14 => F_X9_line_85 v_rowsOn v_receivedMany v_sendingMany v_sends v_marks_n 100000 x14 false 0 v_overrun v_marks_a))
def F_X9_line_42 (v_rowsOn : Bool) (v_receivedMany : Int32) (v_sendingMany : Int32) (v_sends : Bool) (v_marks_n : Nat) (s0 : Int32) (s1 : Int32) (v_overrun : Bool) (v_marks_a : Nat → Int32) : Option (Int32 × Bool × (Nat → Int32)) := lt1 (s0 ||| s1) (fun x18 => if v_sendingMany = 0 then (F_X9_line_58 v_rowsOn v_receivedMany v_sendingMany v_sends v_marks_n x18 32 v_overrun v_marks_a) else (F_X9_line_58 v_rowsOn v_receivedMany v_sendingMany v_sends v_marks_n x18 0 v_overrun v_marks_a))
def F_X9_line_24 (v_rowsOn : Bool) (v_receivedMany : Int32) (v_sendingMany : Int32) (v_sends : Bool) (v_marks_n : Nat) (s0 : Bool) (s1 : Int32) (v_overrun : Bool) (v_marks_a : Nat → Int32) : Option (Int32 × Bool × (Nat → Int32)) := if v_receivedMany ≤ 0 then (F_X9_line_42 v_rowsOn v_receivedMany v_sendingMany v_sends v_marks_n ((bI s0) ||| s1) 0 v_overrun v_marks_a) else (gd (inR 0 v_marks_n = true) (F_X9_line_42 v_rowsOn v_receivedMany v_sendingMany v_sends v_marks_n ((bI s0) ||| s1) (v_marks_a (0 : Int32).toNatClampNeg) v_overrun v_marks_a))
def F_X9_line_12 (v_rowsOn : Bool) (v_receivedMany : Int32) (v_sendingMany : Int32) (v_sends : Bool) (v_marks_n : Nat) (s0 : Bool) (v_overrun : Bool) (v_marks_a : Nat → Int32) : Option (Int32 × Bool × (Nat → Int32)) := bt v_overrun (F_X9_line_24 v_rowsOn v_receivedMany v_sendingMany v_sends v_marks_n s0 2 v_overrun v_marks_a) (F_X9_line_24 v_rowsOn v_receivedMany v_sendingMany v_sends v_marks_n s0 0 v_overrun v_marks_a)
def F_X9_line  (v_rowsOn : Bool) (v_receivedMany : Int32) (v_overrun : Bool) (v_sendingMany : Int32) (v_sends : Bool) (v_marks_n : Nat) (v_marks_a : Nat → Int32) : Option (Int32 × Bool × (Nat → Int32)) := if v_receivedMany ≤ 0 then (F_X9_line_12 v_rowsOn v_receivedMany v_sendingMany v_sends v_marks_n false v_overrun v_marks_a) else (F_X9_line_12 v_rowsOn v_receivedMany v_sendingMany v_sends v_marks_n true v_overrun v_marks_a)
def wX9_line (k_marks : ClassId) (h_ : Nat) (h_received : Nat) (h_marks : Nat) (h_sending : Nat) (h_waveHigh : Nat) (h_waveBeats : Nat) (h_runHigh : Nat) (h_runBeats : Nat) (v_divisor : Int32) (v_clocks : Int32) (v_wanted : Int32) (v_rowsOn : Bool) (v_level : Int32) (v_form : Int32) (v_outputs : Int32) (v_byteKept : Int32) (v_ins : Int32) (v_changed : Int32) (v_receivedMany : Int32) (v_sendingMany : Int32) (v_emptyUp : Bool) (v_lateUp : Bool) (v_lateCount : Int32) (v_waveMany : Int32) (v_lineIn : Bool) (v_sends : Bool) (v_sentCharacter : Int32) (v_sentForm : Int32) (v_sentBeat : Int32) (v_senderHigh : Bool) (v_takes : Bool) (v_sawHigh : Bool) (v_takenForm : Int32) (v_takenBeat : Int32) (v_takenBits : Int32) (v_takenParity : Int32) (v_beats : Int32) (v_out : Bool) (v_runs : Int32) (v_thrown : Int32) (v_marks_n : Nat) (u : Int32 × Bool × (Nat → Int32)) : va_W := [oX9 h_ v_divisor v_clocks v_wanted v_rowsOn v_level v_form v_outputs v_byteKept v_ins v_changed h_received h_marks v_receivedMany u.2.1 h_sending v_sendingMany v_emptyUp v_lateUp v_lateCount h_waveHigh h_waveBeats v_waveMany v_lineIn v_sends v_sentCharacter v_sentForm v_sentBeat v_senderHigh v_takes v_sawHigh v_takenForm v_takenBeat v_takenBits v_takenParity v_beats v_out h_runHigh h_runBeats v_runs v_thrown, aI h_marks k_marks v_marks_n u.2.2]
set_option maxHeartbeats 4000000 in
set_option maxRecDepth 100000 in
theorem mX9_line {l : Launch} (D : va_G) (k_marks : ClassId) (h_ : Nat) (h_received : Nat) (h_marks : Nat) (h_sending : Nat) (h_waveHigh : Nat) (h_waveBeats : Nat) (h_runHigh : Nat) (h_runBeats : Nat) (v_divisor : Int32) (v_clocks : Int32) (v_wanted : Int32) (v_rowsOn : Bool) (v_level : Int32) (v_form : Int32) (v_outputs : Int32) (v_byteKept : Int32) (v_ins : Int32) (v_changed : Int32) (v_receivedMany : Int32) (v_overrun : Bool) (v_sendingMany : Int32) (v_emptyUp : Bool) (v_lateUp : Bool) (v_lateCount : Int32) (v_waveMany : Int32) (v_lineIn : Bool) (v_sends : Bool) (v_sentCharacter : Int32) (v_sentForm : Int32) (v_sentBeat : Int32) (v_senderHigh : Bool) (v_takes : Bool) (v_sawHigh : Bool) (v_takenForm : Int32) (v_takenBeat : Int32) (v_takenBits : Int32) (v_takenParity : Int32) (v_beats : Int32) (v_out : Bool) (v_runs : Int32) (v_thrown : Int32) (v_marks_n : Nat) (v_marks_a : Nat → Int32) (u0 : Int32 × Bool × (Nat → Int32)) (hF : F_X9_line v_rowsOn v_receivedMany v_overrun v_sendingMany v_sends v_marks_n v_marks_a = some u0) : MI l yX9_line wsX9_line { frames := 0, cells := 0, slots := 0, locals := 0 } D [(k_marks, .int)] [.ref h_] [oX9 h_ v_divisor v_clocks v_wanted v_rowsOn v_level v_form v_outputs v_byteKept v_ins v_changed h_received h_marks v_receivedMany v_overrun h_sending v_sendingMany v_emptyUp v_lateUp v_lateCount h_waveHigh h_waveBeats v_waveMany v_lineIn v_sends v_sentCharacter v_sentForm v_sentBeat v_senderHigh v_takes v_sawHigh v_takenForm v_takenBeat v_takenBits v_takenParity v_beats v_out h_runHigh h_runBeats v_runs v_thrown, aI h_marks k_marks v_marks_n v_marks_a] (wX9_line k_marks h_ h_received h_marks h_sending h_waveHigh h_waveBeats h_runHigh h_runBeats v_divisor v_clocks v_wanted v_rowsOn v_level v_form v_outputs v_byteKept v_ins v_changed v_receivedMany v_sendingMany v_emptyUp v_lateUp v_lateCount v_waveMany v_lineIn v_sends v_sentCharacter v_sentForm v_sentBeat v_senderHigh v_takes v_sawHigh v_takenForm v_takenBeat v_takenBits v_takenParity v_beats v_out v_runs v_thrown v_marks_n u0) (u0.1) := by
  refine MI.ofW (cc := cX9_line) (maxL := 4) (ret := (some .int)) (lv := [(0, .ref h_)]) (by decide +kernel) rfl (Nat.le_of_ble_eq_true rfl) rfl ?_
  intro p e s m args below meth c A ls hx hb hr hml hts hown hlocks hA hK hP hD hS hl
  replace hown : s.vm.findClass RX9 = some m.cls := hown
  have i_X9 : ∀ w ∈ wsX90, w ∈ wsX9_line := by decide +kernel
  have f_13 := hts (.fieldLink RX9 13 "SerialPortModel" "marks" "[I") (by decide +kernel)
  have f_48 := hts (.fieldLink RX9 48 "SerialPortModel" "rowsOn" "Z") (by decide +kernel)
  have f_70 := hts (.fieldLink RX9 70 "SerialPortModel" "receivedMany" "I") (by decide +kernel)
  have f_73 := hts (.fieldLink RX9 73 "SerialPortModel" "overrun" "Z") (by decide +kernel)
  have f_76 := hts (.fieldLink RX9 76 "SerialPortModel" "sendingMany" "I") (by decide +kernel)
  have f_94 := hts (.fieldLink RX9 94 "SerialPortModel" "sends" "Z") (by decide +kernel)
  have hret : ∀ (u : Int32 × Bool × (Nat → Int32)) (v : Int32) (H : Heap) (locs : List Loc) (pc : Nat) (ls : Array Slot), va_P D vwCl (wX9_line k_marks h_ h_received h_marks h_sending h_waveHigh h_waveBeats h_runHigh h_runBeats v_divisor v_clocks v_wanted v_rowsOn v_level v_form v_outputs v_byteKept v_ins v_changed v_receivedMany v_sendingMany v_emptyUp v_lateUp v_lateCount v_waveMany v_lineIn v_sends v_sentCharacter v_sentForm v_sentBeat v_senderHigh v_takes v_sawHigh v_takenForm v_takenBeat v_takenBits v_takenParity v_beats v_out v_runs v_thrown v_marks_n u) H → va_D A (wX9_line k_marks h_ h_received h_marks h_sending h_waveHigh h_waveBeats h_runHigh h_runBeats v_divisor v_clocks v_wanted v_rowsOn v_level v_form v_outputs v_byteKept v_ins v_changed v_receivedMany v_sendingMany v_emptyUp v_lateUp v_lateCount v_waveMany v_lineIn v_sends v_sentCharacter v_sentForm v_sentBeat v_senderHigh v_takes v_sawHigh v_takenForm v_takenBeat v_takenBits v_takenParity v_beats v_out v_runs v_thrown v_marks_n u) → va_S A s.heap H locs → some u = some u0 → v = u.1 → decode cX9_line pc = .ok (.ireturn, 1) → W p l e { frames := 0, cells := 0, slots := 0, locals := 0 } s m args below meth c H locs 0 0 (QI below D [(k_marks, .int)] (wX9_line k_marks h_ h_received h_marks h_sending h_waveHigh h_waveBeats h_runHigh h_runBeats v_divisor v_clocks v_wanted v_rowsOn v_level v_form v_outputs v_byteKept v_ins v_changed v_receivedMany v_sendingMany v_emptyUp v_lateUp v_lateCount v_waveMany v_lineIn v_sends v_sentCharacter v_sentForm v_sentBeat v_senderHigh v_takes v_sawHigh v_takenForm v_takenBeat v_takenBits v_takenParity v_beats v_out v_runs v_thrown v_marks_n u0) (u0.1) args s A) (F0 m pc ls [.int v]) := fun u v H locs pc ls h1 h2 h3 h4 h5 h6 => rI (wf := wX9_line k_marks h_ h_received h_marks h_sending h_waveHigh h_waveBeats h_runHigh h_runBeats v_divisor v_clocks v_wanted v_rowsOn v_level v_form v_outputs v_byteKept v_ins v_changed v_receivedMany v_sendingMany v_emptyUp v_lateUp v_lateCount v_waveMany v_lineIn v_sends v_sentCharacter v_sentForm v_sentBeat v_senderHigh v_takes v_sawHigh v_takenForm v_takenBeat v_takenBits v_takenParity v_beats v_out v_runs v_thrown v_marks_n) (rf := fun u => u.1) hx hb hr hlocks hK h1 h2 h3 h4 h5 h6
  have J135 : ∀ (l1 : Int32) (v_overrun : Bool) (v_marks_a : Nat → Int32) (H : Heap) (locs : List Loc) (ls : Array Slot), F_X9_line_135 v_rowsOn v_receivedMany v_sendingMany v_sends v_marks_n l1 v_overrun v_marks_a = some u0 → lv_has ls 4 [(0, .ref h_), (1, .int l1)] → va_P D vwCl [oX9 h_ v_divisor v_clocks v_wanted v_rowsOn v_level v_form v_outputs v_byteKept v_ins v_changed h_received h_marks v_receivedMany v_overrun h_sending v_sendingMany v_emptyUp v_lateUp v_lateCount h_waveHigh h_waveBeats v_waveMany v_lineIn v_sends v_sentCharacter v_sentForm v_sentBeat v_senderHigh v_takes v_sawHigh v_takenForm v_takenBeat v_takenBits v_takenParity v_beats v_out h_runHigh h_runBeats v_runs v_thrown, aI h_marks k_marks v_marks_n v_marks_a] H → va_D A [oX9 h_ v_divisor v_clocks v_wanted v_rowsOn v_level v_form v_outputs v_byteKept v_ins v_changed h_received h_marks v_receivedMany v_overrun h_sending v_sendingMany v_emptyUp v_lateUp v_lateCount h_waveHigh h_waveBeats v_waveMany v_lineIn v_sends v_sentCharacter v_sentForm v_sentBeat v_senderHigh v_takes v_sawHigh v_takenForm v_takenBeat v_takenBits v_takenParity v_beats v_out h_runHigh h_runBeats v_runs v_thrown, aI h_marks k_marks v_marks_n v_marks_a] → va_S A s.heap H locs → W p l e { frames := 0, cells := 0, slots := 0, locals := 0 } s m args below meth c H locs 0 0 (QI below D [(k_marks, .int)] (wX9_line k_marks h_ h_received h_marks h_sending h_waveHigh h_waveBeats h_runHigh h_runBeats v_divisor v_clocks v_wanted v_rowsOn v_level v_form v_outputs v_byteKept v_ins v_changed v_receivedMany v_sendingMany v_emptyUp v_lateUp v_lateCount v_waveMany v_lineIn v_sends v_sentCharacter v_sentForm v_sentBeat v_senderHigh v_takes v_sawHigh v_takenForm v_takenBeat v_takenBits v_takenParity v_beats v_out v_runs v_thrown v_marks_n u0) (u0.1) args s A) (F0 m 135 ls []) := by
    intro l1 v_overrun v_marks_a H locs ls hF hl hP hD hS
    unfold F_X9_line_135 at hF
    refine lv_aload_n hx hb dX9_line_135 rfl (lv_at hl 0 rfl) ?_
    refine lv_iconst (v := 0) hx hb dX9_line_136 (by decide) ?_
    refine pf (ci := 8) (v := .int (bI false)) (ty := .boolean) (C := RX9) (T := TX9) (N := 40) (ws' := [oX9 h_ v_divisor v_clocks v_wanted v_rowsOn v_level v_form v_outputs v_byteKept v_ins v_changed h_received h_marks v_receivedMany false h_sending v_sendingMany v_emptyUp v_lateUp v_lateCount h_waveHigh h_waveBeats v_waveMany v_lineIn v_sends v_sentCharacter v_sentForm v_sentBeat v_senderHigh v_takes v_sawHigh v_takenForm v_takenBeat v_takenBits v_takenParity v_beats v_out h_runHigh h_runBeats v_runs v_thrown, aI h_marks k_marks v_marks_n v_marks_a]) hx hb hts i_X9 tyX9_ok nmX9 hown hK hP hD hS 0 rfl rfl 13 (Nat.le_of_ble_eq_true rfl) f_73 rfl rfl (by decide +kernel) (nar_bI false) (fit_bI false) (Nat.le_of_ble_eq_true rfl) rfl dX9_line_137 (fun H locs hP hD hS => ?_)
    refine lv_aload_n hx hb dX9_line_140 rfl (lv_at hl 0 rfl) ?_
    refine va_get (D := D) (ci := 8) (v := .int v_receivedMany) (C := RX9) (T := TX9) (N := 40) hx hb hts i_X9 hown hK hP 0 rfl rfl 12 (Nat.le_of_ble_eq_true rfl) f_70 (fun _ h9 => h9) rfl dX9_line_141 ?_
    refine lv_if_le (tgt := 154) hx hb dX9_line_144 (by decide) (fun c1 => ?_) (fun c1 => ?_)
    · replace hF := it_t c1 hF
      refine lv_iload_n hx hb dX9_line_154 rfl (lv_at hl 1 rfl) ?_
      exact hret (l1, false, v_marks_a) l1 _ _ 155 _ hP hD hS hF rfl dX9_line_155
    · replace hF := it_f c1 hF
      refine lv_aload_n hx hb dX9_line_147 rfl (lv_at hl 0 rfl) ?_
      refine va_get (D := D) (ci := 8) (v := .ref h_marks) (C := RX9) (T := TX9) (N := 40) hx hb hts i_X9 hown hK hP 0 rfl rfl 11 (Nat.le_of_ble_eq_true rfl) f_13 (fun _ h9 => h9) rfl dX9_line_148 ?_
      refine lv_iconst (v := 0) hx hb dX9_line_151 (by decide) ?_
      refine lv_iconst (v := 0) hx hb dX9_line_152 (by decide) ?_
      obtain ⟨g2, hF⟩ := gd_el hF
      refine ias (ws' := [oX9 h_ v_divisor v_clocks v_wanted v_rowsOn v_level v_form v_outputs v_byteKept v_ins v_changed h_received h_marks v_receivedMany false h_sending v_sendingMany v_emptyUp v_lateUp v_lateCount h_waveHigh h_waveBeats v_waveMany v_lineIn v_sends v_sentCharacter v_sentForm v_sentBeat v_senderHigh v_takes v_sawHigh v_takenForm v_takenBeat v_takenBits v_takenParity v_beats v_out h_runHigh h_runBeats v_runs v_thrown, aI h_marks k_marks v_marks_n (upd v_marks_a ((0 : Int32).toNatClampNeg) 0)]) hx hb hK hP hD hS 1 0 rfl rfl g2 rfl dX9_line_153 (fun H locs hP hD hS => ?_)
      refine lv_iload_n hx hb dX9_line_154 rfl (lv_at hl 1 rfl) ?_
      exact hret (l1, false, upd v_marks_a ((0 : Int32).toNatClampNeg) 0) l1 _ _ 155 _ hP hD hS hF rfl dX9_line_155
  have J85 : ∀ (n : Nat) (l1 : Int32) (l2 : Bool) (l3 : Int32) (v_overrun : Bool) (v_marks_a : Nat → Int32) (H : Heap) (locs : List Loc) (ls : Array Slot), F_X9_line_85 v_rowsOn v_receivedMany v_sendingMany v_sends v_marks_n n l1 l2 l3 v_overrun v_marks_a = some u0 → lv_has ls 4 [(0, .ref h_), (1, .int l1), (2, .int (bI l2)), (3, .int l3)] → va_P D vwCl [oX9 h_ v_divisor v_clocks v_wanted v_rowsOn v_level v_form v_outputs v_byteKept v_ins v_changed h_received h_marks v_receivedMany v_overrun h_sending v_sendingMany v_emptyUp v_lateUp v_lateCount h_waveHigh h_waveBeats v_waveMany v_lineIn v_sends v_sentCharacter v_sentForm v_sentBeat v_senderHigh v_takes v_sawHigh v_takenForm v_takenBeat v_takenBits v_takenParity v_beats v_out h_runHigh h_runBeats v_runs v_thrown, aI h_marks k_marks v_marks_n v_marks_a] H → va_D A [oX9 h_ v_divisor v_clocks v_wanted v_rowsOn v_level v_form v_outputs v_byteKept v_ins v_changed h_received h_marks v_receivedMany v_overrun h_sending v_sendingMany v_emptyUp v_lateUp v_lateCount h_waveHigh h_waveBeats v_waveMany v_lineIn v_sends v_sentCharacter v_sentForm v_sentBeat v_senderHigh v_takes v_sawHigh v_takenForm v_takenBeat v_takenBits v_takenParity v_beats v_out h_runHigh h_runBeats v_runs v_thrown, aI h_marks k_marks v_marks_n v_marks_a] → va_S A s.heap H locs → W p l e { frames := 0, cells := 0, slots := 0, locals := 0 } s m args below meth c H locs 0 0 (QI below D [(k_marks, .int)] (wX9_line k_marks h_ h_received h_marks h_sending h_waveHigh h_waveBeats h_runHigh h_runBeats v_divisor v_clocks v_wanted v_rowsOn v_level v_form v_outputs v_byteKept v_ins v_changed v_receivedMany v_sendingMany v_emptyUp v_lateUp v_lateCount v_waveMany v_lineIn v_sends v_sentCharacter v_sentForm v_sentBeat v_senderHigh v_takes v_sawHigh v_takenForm v_takenBeat v_takenBits v_takenParity v_beats v_out v_runs v_thrown v_marks_n u0) (u0.1) args s A) (F0 m 85 ls []) := by
    intro n
    induction n with
    | zero =>
      intro l1 l2 l3 v_overrun v_marks_a H locs ls hF hl hP hD hS
      have hF : (none : Option (Int32 × Bool × (Nat → Int32))) = some u0 := hF
      cases hF
    | succ n ih =>
      intro l1 l2 l3 v_overrun v_marks_a H locs ls hF hl hP hD hS
      replace hF : F_X9_line_85_s (F_X9_line_85 v_rowsOn v_receivedMany v_sendingMany v_sends v_marks_n n) v_rowsOn v_receivedMany v_sendingMany v_sends v_marks_n l1 l2 l3 v_overrun v_marks_a = some u0 := hF
      unfold F_X9_line_85_s at hF
      refine lv_iload_n hx hb dX9_line_85 rfl (lv_at hl 3 rfl) ?_
      refine lv_aload_n hx hb dX9_line_86 rfl (lv_at hl 0 rfl) ?_
      refine va_get (D := D) (ci := 8) (v := .int v_receivedMany) (C := RX9) (T := TX9) (N := 40) hx hb hts i_X9 hown hK hP 0 rfl rfl 12 (Nat.le_of_ble_eq_true rfl) f_70 (fun _ h9 => h9) rfl dX9_line_87 ?_
      refine lv_icmp_ge (tgt := 118) hx hb dX9_line_90 (by decide) (fun c3 => ?_) (fun c3 => ?_)
      · replace hF := it_t c3 hF
        refine lv_aload_n hx hb dX9_line_118 rfl (lv_at hl 0 rfl) ?_
        refine va_get (D := D) (ci := 8) (v := .int (bI v_rowsOn)) (C := RX9) (T := TX9) (N := 40) hx hb hts i_X9 hown hK hP 0 rfl rfl 3 (Nat.le_of_ble_eq_true rfl) f_48 (fun _ h9 => h9) rfl dX9_line_119 ?_
        refine lv_if_eq (tgt := 135) hx hb dX9_line_122 (by decide) (fun c4 => ?_) (fun c4 => ?_)
        · replace hF := bt_f (bI_0 c4) hF
          exact J135 l1 v_overrun v_marks_a _ _ _ hF (lv_sub hl [0, 1] rfl) hP hD hS
        · replace hF := bt_t (bI_n0 c4) hF
          refine lv_iload_n hx hb dX9_line_125 rfl (lv_at hl 2 rfl) ?_
          refine lv_if_eq (tgt := 135) hx hb dX9_line_126 (by decide) (fun c5 => ?_) (fun c5 => ?_)
          · replace hF := bt_f (bI_0 c5) hF
            exact J135 l1 v_overrun v_marks_a _ _ _ hF (lv_sub hl [0, 1] rfl) hP hD hS
          · replace hF := bt_t (bI_n0 c5) hF
            refine lv_iload_n hx hb dX9_line_129 rfl (lv_at hl 1 rfl) ?_
            refine lv_sipush (v := 128) hx hb dX9_line_130 (by decide) ?_
            refine lv_ior hx hb dX9_line_133 ?_
            refine lv_topi (fun x6 ex6 => ?_)
            replace hF := lt1_x ex6 hF
            refine lv_istore_n (lv' := [(1, .int x6), (0, .ref h_), (2, .int (bI l2)), (3, .int l3)]) hx hb dX9_line_134 rfl hl (Nat.le_of_ble_eq_true rfl) rfl (fun ls hl => ?_)
            exact J135 x6 v_overrun v_marks_a _ _ _ hF (lv_sub hl [1, 0] rfl) hP hD hS
      · replace hF := it_f c3 hF
        refine lv_iload_n hx hb dX9_line_93 rfl (lv_at hl 2 rfl) ?_
        refine lv_if_ne (tgt := 106) hx hb dX9_line_94 (by decide) (fun c7 => ?_) (fun c7 => ?_)
        · replace hF := bt_t (bI_n0 c7) hF
          refine lv_iconst (v := 1) hx hb dX9_line_106 (by decide) ?_
          refine lv_goto (tgt := 111) hx hb dX9_line_107 (by decide) ?_
          refine lv_istore_n (lv' := [(2, .int 1), (0, .ref h_), (1, .int l1), (3, .int l3)]) hx hb dX9_line_111 rfl hl (Nat.le_of_ble_eq_true rfl) rfl (fun ls hl => ?_)
          obtain ⟨x8, ex8⟩ : ∃ y : Int32, y = l3 + 1 := ⟨_, rfl⟩
          replace hF := lt1_x ex8 hF
          refine lv_iinc (v := x8) (lv' := [(3, .int x8), (2, .int 1), (0, .ref h_), (1, .int l1)]) hx hb dX9_line_112 hl (k := 3) rfl (by rw [ex8]; rfl) (Nat.le_of_ble_eq_true rfl) rfl (fun ls hl => ?_)
          refine lv_goto (tgt := 85) hx hb dX9_line_115 (by decide) ?_
          exact ih l1 true x8 v_overrun v_marks_a _ _ _ hF (lv_sub hl [2, 3, 1, 0] rfl) hP hD hS
        · replace hF := bt_f (bI_0 c7) hF
          refine lv_aload_n hx hb dX9_line_97 rfl (lv_at hl 0 rfl) ?_
          refine va_get (D := D) (ci := 8) (v := .ref h_marks) (C := RX9) (T := TX9) (N := 40) hx hb hts i_X9 hown hK hP 0 rfl rfl 11 (Nat.le_of_ble_eq_true rfl) f_13 (fun _ h9 => h9) rfl dX9_line_98 ?_
          refine lv_iload_n hx hb dX9_line_101 rfl (lv_at hl 3 rfl) ?_
          obtain ⟨g9, hF⟩ := gd_el hF
          refine va_iald hx hb hK hP 1 0 rfl rfl (inR_in g9) dX9_line_102 ?_
          refine lv_if_eq (tgt := 110) hx hb dX9_line_103 (by decide) (fun c10 => ?_) (fun c10 => ?_)
          · replace hF := it_t c10 hF
            refine lv_iconst (v := 0) hx hb dX9_line_110 (by decide) ?_
            refine lv_istore_n (lv' := [(2, .int 0), (0, .ref h_), (1, .int l1), (3, .int l3)]) hx hb dX9_line_111 rfl hl (Nat.le_of_ble_eq_true rfl) rfl (fun ls hl => ?_)
            obtain ⟨x11, ex11⟩ : ∃ y : Int32, y = l3 + 1 := ⟨_, rfl⟩
            replace hF := lt1_x ex11 hF
            refine lv_iinc (v := x11) (lv' := [(3, .int x11), (2, .int 0), (0, .ref h_), (1, .int l1)]) hx hb dX9_line_112 hl (k := 3) rfl (by rw [ex11]; rfl) (Nat.le_of_ble_eq_true rfl) rfl (fun ls hl => ?_)
            refine lv_goto (tgt := 85) hx hb dX9_line_115 (by decide) ?_
            exact ih l1 false x11 v_overrun v_marks_a _ _ _ hF (lv_sub hl [2, 3, 1, 0] rfl) hP hD hS
          · replace hF := it_f c10 hF
            refine lv_iconst (v := 1) hx hb dX9_line_106 (by decide) ?_
            refine lv_goto (tgt := 111) hx hb dX9_line_107 (by decide) ?_
            refine lv_istore_n (lv' := [(2, .int 1), (0, .ref h_), (1, .int l1), (3, .int l3)]) hx hb dX9_line_111 rfl hl (Nat.le_of_ble_eq_true rfl) rfl (fun ls hl => ?_)
            obtain ⟨x12, ex12⟩ : ∃ y : Int32, y = l3 + 1 := ⟨_, rfl⟩
            replace hF := lt1_x ex12 hF
            refine lv_iinc (v := x12) (lv' := [(3, .int x12), (2, .int 1), (0, .ref h_), (1, .int l1)]) hx hb dX9_line_112 hl (k := 3) rfl (by rw [ex12]; rfl) (Nat.le_of_ble_eq_true rfl) rfl (fun ls hl => ?_)
            refine lv_goto (tgt := 85) hx hb dX9_line_115 (by decide) ?_
            exact ih l1 true x12 v_overrun v_marks_a _ _ _ hF (lv_sub hl [2, 3, 1, 0] rfl) hP hD hS
  have J58 : ∀ (s0 : Int32) (s1 : Int32) (v_overrun : Bool) (v_marks_a : Nat → Int32) (H : Heap) (locs : List Loc) (ls : Array Slot), F_X9_line_58 v_rowsOn v_receivedMany v_sendingMany v_sends v_marks_n s0 s1 v_overrun v_marks_a = some u0 → lv_has ls 4 [(0, .ref h_)] → va_P D vwCl [oX9 h_ v_divisor v_clocks v_wanted v_rowsOn v_level v_form v_outputs v_byteKept v_ins v_changed h_received h_marks v_receivedMany v_overrun h_sending v_sendingMany v_emptyUp v_lateUp v_lateCount h_waveHigh h_waveBeats v_waveMany v_lineIn v_sends v_sentCharacter v_sentForm v_sentBeat v_senderHigh v_takes v_sawHigh v_takenForm v_takenBeat v_takenBits v_takenParity v_beats v_out h_runHigh h_runBeats v_runs v_thrown, aI h_marks k_marks v_marks_n v_marks_a] H → va_D A [oX9 h_ v_divisor v_clocks v_wanted v_rowsOn v_level v_form v_outputs v_byteKept v_ins v_changed h_received h_marks v_receivedMany v_overrun h_sending v_sendingMany v_emptyUp v_lateUp v_lateCount h_waveHigh h_waveBeats v_waveMany v_lineIn v_sends v_sentCharacter v_sentForm v_sentBeat v_senderHigh v_takes v_sawHigh v_takenForm v_takenBeat v_takenBits v_takenParity v_beats v_out h_runHigh h_runBeats v_runs v_thrown, aI h_marks k_marks v_marks_n v_marks_a] → va_S A s.heap H locs → W p l e { frames := 0, cells := 0, slots := 0, locals := 0 } s m args below meth c H locs 0 0 (QI below D [(k_marks, .int)] (wX9_line k_marks h_ h_received h_marks h_sending h_waveHigh h_waveBeats h_runHigh h_runBeats v_divisor v_clocks v_wanted v_rowsOn v_level v_form v_outputs v_byteKept v_ins v_changed v_receivedMany v_sendingMany v_emptyUp v_lateUp v_lateCount v_waveMany v_lineIn v_sends v_sentCharacter v_sentForm v_sentBeat v_senderHigh v_takes v_sawHigh v_takenForm v_takenBeat v_takenBits v_takenParity v_beats v_out v_runs v_thrown v_marks_n u0) (u0.1) args s A) (F0 m 58 ls [.int s1, .int s0]) := by
    intro s0 s1 v_overrun v_marks_a H locs ls hF hl hP hD hS
    unfold F_X9_line_58 at hF
    refine lv_aload_n hx hb dX9_line_58 rfl (lv_at hl 0 rfl) ?_
    refine va_get (D := D) (ci := 8) (v := .int v_sendingMany) (C := RX9) (T := TX9) (N := 40) hx hb hts i_X9 hown hK hP 0 rfl rfl 15 (Nat.le_of_ble_eq_true rfl) f_76 (fun _ h9 => h9) rfl dX9_line_59 ?_
    refine lv_if_ne (tgt := 77) hx hb dX9_line_62 (by decide) (fun c13 => ?_) (fun c13 => ?_)
    · replace hF := it_f c13 hF
      refine lv_iconst (v := 0) hx hb dX9_line_77 (by decide) ?_
      refine lv_ior hx hb dX9_line_78 ?_
      refine lv_ior hx hb dX9_line_79 ?_
      refine lv_topi (fun x14 ex14 => ?_)
      replace hF := lt1_x ex14 hF
      refine lv_istore_n (lv' := [(1, .int x14), (0, .ref h_)]) hx hb dX9_line_80 rfl hl (Nat.le_of_ble_eq_true rfl) rfl (fun ls hl => ?_)
      refine lv_iconst (v := 0) hx hb dX9_line_81 (by decide) ?_
      refine lv_istore_n (lv' := [(2, .int 0), (1, .int x14), (0, .ref h_)]) hx hb dX9_line_82 rfl hl (Nat.le_of_ble_eq_true rfl) rfl (fun ls hl => ?_)
      refine lv_iconst (v := 0) hx hb dX9_line_83 (by decide) ?_
      refine lv_istore_n (lv' := [(3, .int 0), (2, .int 0), (1, .int x14), (0, .ref h_)]) hx hb dX9_line_84 rfl hl (Nat.le_of_ble_eq_true rfl) rfl (fun ls hl => ?_)
      exact J85 100000 x14 false 0 v_overrun v_marks_a _ _ _ hF (lv_sub hl [3, 2, 1, 0] rfl) hP hD hS
    · replace hF := it_t c13 hF
      refine lv_aload_n hx hb dX9_line_65 rfl (lv_at hl 0 rfl) ?_
      refine va_get (D := D) (ci := 8) (v := .int (bI v_sends)) (C := RX9) (T := TX9) (N := 40) hx hb hts i_X9 hown hK hP 0 rfl rfl 23 (Nat.le_of_ble_eq_true rfl) f_94 (fun _ h9 => h9) rfl dX9_line_66 ?_
      refine lv_if_ne (tgt := 77) hx hb dX9_line_69 (by decide) (fun c15 => ?_) (fun c15 => ?_)
      · replace hF := bt_t (bI_n0 c15) hF
        refine lv_iconst (v := 0) hx hb dX9_line_77 (by decide) ?_
        refine lv_ior hx hb dX9_line_78 ?_
        refine lv_ior hx hb dX9_line_79 ?_
        refine lv_topi (fun x16 ex16 => ?_)
        replace hF := lt1_x ex16 hF
        refine lv_istore_n (lv' := [(1, .int x16), (0, .ref h_)]) hx hb dX9_line_80 rfl hl (Nat.le_of_ble_eq_true rfl) rfl (fun ls hl => ?_)
        refine lv_iconst (v := 0) hx hb dX9_line_81 (by decide) ?_
        refine lv_istore_n (lv' := [(2, .int 0), (1, .int x16), (0, .ref h_)]) hx hb dX9_line_82 rfl hl (Nat.le_of_ble_eq_true rfl) rfl (fun ls hl => ?_)
        refine lv_iconst (v := 0) hx hb dX9_line_83 (by decide) ?_
        refine lv_istore_n (lv' := [(3, .int 0), (2, .int 0), (1, .int x16), (0, .ref h_)]) hx hb dX9_line_84 rfl hl (Nat.le_of_ble_eq_true rfl) rfl (fun ls hl => ?_)
        exact J85 100000 x16 false 0 v_overrun v_marks_a _ _ _ hF (lv_sub hl [3, 2, 1, 0] rfl) hP hD hS
      · replace hF := bt_f (bI_0 c15) hF
        refine lv_bipush (v := 64) hx hb dX9_line_72 (by decide) ?_
        refine lv_goto (tgt := 78) hx hb dX9_line_74 (by decide) ?_
        refine lv_ior hx hb dX9_line_78 ?_
        refine lv_ior hx hb dX9_line_79 ?_
        refine lv_topi (fun x17 ex17 => ?_)
        replace hF := lt1_x ex17 hF
        refine lv_istore_n (lv' := [(1, .int x17), (0, .ref h_)]) hx hb dX9_line_80 rfl hl (Nat.le_of_ble_eq_true rfl) rfl (fun ls hl => ?_)
        refine lv_iconst (v := 0) hx hb dX9_line_81 (by decide) ?_
        refine lv_istore_n (lv' := [(2, .int 0), (1, .int x17), (0, .ref h_)]) hx hb dX9_line_82 rfl hl (Nat.le_of_ble_eq_true rfl) rfl (fun ls hl => ?_)
        refine lv_iconst (v := 0) hx hb dX9_line_83 (by decide) ?_
        refine lv_istore_n (lv' := [(3, .int 0), (2, .int 0), (1, .int x17), (0, .ref h_)]) hx hb dX9_line_84 rfl hl (Nat.le_of_ble_eq_true rfl) rfl (fun ls hl => ?_)
        exact J85 100000 x17 false 0 v_overrun v_marks_a _ _ _ hF (lv_sub hl [3, 2, 1, 0] rfl) hP hD hS
  have J42 : ∀ (s0 : Int32) (s1 : Int32) (v_overrun : Bool) (v_marks_a : Nat → Int32) (H : Heap) (locs : List Loc) (ls : Array Slot), F_X9_line_42 v_rowsOn v_receivedMany v_sendingMany v_sends v_marks_n s0 s1 v_overrun v_marks_a = some u0 → lv_has ls 4 [(0, .ref h_)] → va_P D vwCl [oX9 h_ v_divisor v_clocks v_wanted v_rowsOn v_level v_form v_outputs v_byteKept v_ins v_changed h_received h_marks v_receivedMany v_overrun h_sending v_sendingMany v_emptyUp v_lateUp v_lateCount h_waveHigh h_waveBeats v_waveMany v_lineIn v_sends v_sentCharacter v_sentForm v_sentBeat v_senderHigh v_takes v_sawHigh v_takenForm v_takenBeat v_takenBits v_takenParity v_beats v_out h_runHigh h_runBeats v_runs v_thrown, aI h_marks k_marks v_marks_n v_marks_a] H → va_D A [oX9 h_ v_divisor v_clocks v_wanted v_rowsOn v_level v_form v_outputs v_byteKept v_ins v_changed h_received h_marks v_receivedMany v_overrun h_sending v_sendingMany v_emptyUp v_lateUp v_lateCount h_waveHigh h_waveBeats v_waveMany v_lineIn v_sends v_sentCharacter v_sentForm v_sentBeat v_senderHigh v_takes v_sawHigh v_takenForm v_takenBeat v_takenBits v_takenParity v_beats v_out h_runHigh h_runBeats v_runs v_thrown, aI h_marks k_marks v_marks_n v_marks_a] → va_S A s.heap H locs → W p l e { frames := 0, cells := 0, slots := 0, locals := 0 } s m args below meth c H locs 0 0 (QI below D [(k_marks, .int)] (wX9_line k_marks h_ h_received h_marks h_sending h_waveHigh h_waveBeats h_runHigh h_runBeats v_divisor v_clocks v_wanted v_rowsOn v_level v_form v_outputs v_byteKept v_ins v_changed v_receivedMany v_sendingMany v_emptyUp v_lateUp v_lateCount v_waveMany v_lineIn v_sends v_sentCharacter v_sentForm v_sentBeat v_senderHigh v_takes v_sawHigh v_takenForm v_takenBeat v_takenBits v_takenParity v_beats v_out v_runs v_thrown v_marks_n u0) (u0.1) args s A) (F0 m 42 ls [.int s1, .int s0]) := by
    intro s0 s1 v_overrun v_marks_a H locs ls hF hl hP hD hS
    unfold F_X9_line_42 at hF
    refine lv_ior hx hb dX9_line_42 ?_
    refine lv_topi (fun x18 ex18 => ?_)
    replace hF := lt1_x ex18 hF
    refine lv_istore_n (lv' := [(1, .int x18), (0, .ref h_)]) hx hb dX9_line_43 rfl hl (Nat.le_of_ble_eq_true rfl) rfl (fun ls hl => ?_)
    refine lv_iload_n hx hb dX9_line_44 rfl (lv_at hl 0 rfl) ?_
    refine lv_aload_n hx hb dX9_line_45 rfl (lv_at hl 1 rfl) ?_
    refine va_get (D := D) (ci := 8) (v := .int v_sendingMany) (C := RX9) (T := TX9) (N := 40) hx hb hts i_X9 hown hK hP 0 rfl rfl 15 (Nat.le_of_ble_eq_true rfl) f_76 (fun _ h9 => h9) rfl dX9_line_46 ?_
    refine lv_if_ne (tgt := 57) hx hb dX9_line_49 (by decide) (fun c19 => ?_) (fun c19 => ?_)
    · replace hF := it_f c19 hF
      refine lv_iconst (v := 0) hx hb dX9_line_57 (by decide) ?_
      exact J58 x18 0 v_overrun v_marks_a _ _ _ hF (lv_sub hl [1] rfl) hP hD hS
    · replace hF := it_t c19 hF
      refine lv_bipush (v := 32) hx hb dX9_line_52 (by decide) ?_
      refine lv_goto (tgt := 58) hx hb dX9_line_54 (by decide) ?_
      exact J58 x18 32 v_overrun v_marks_a _ _ _ hF (lv_sub hl [1] rfl) hP hD hS
  have J24 : ∀ (s0 : Bool) (s1 : Int32) (v_overrun : Bool) (v_marks_a : Nat → Int32) (H : Heap) (locs : List Loc) (ls : Array Slot), F_X9_line_24 v_rowsOn v_receivedMany v_sendingMany v_sends v_marks_n s0 s1 v_overrun v_marks_a = some u0 → lv_has ls 4 [(0, .ref h_)] → va_P D vwCl [oX9 h_ v_divisor v_clocks v_wanted v_rowsOn v_level v_form v_outputs v_byteKept v_ins v_changed h_received h_marks v_receivedMany v_overrun h_sending v_sendingMany v_emptyUp v_lateUp v_lateCount h_waveHigh h_waveBeats v_waveMany v_lineIn v_sends v_sentCharacter v_sentForm v_sentBeat v_senderHigh v_takes v_sawHigh v_takenForm v_takenBeat v_takenBits v_takenParity v_beats v_out h_runHigh h_runBeats v_runs v_thrown, aI h_marks k_marks v_marks_n v_marks_a] H → va_D A [oX9 h_ v_divisor v_clocks v_wanted v_rowsOn v_level v_form v_outputs v_byteKept v_ins v_changed h_received h_marks v_receivedMany v_overrun h_sending v_sendingMany v_emptyUp v_lateUp v_lateCount h_waveHigh h_waveBeats v_waveMany v_lineIn v_sends v_sentCharacter v_sentForm v_sentBeat v_senderHigh v_takes v_sawHigh v_takenForm v_takenBeat v_takenBits v_takenParity v_beats v_out h_runHigh h_runBeats v_runs v_thrown, aI h_marks k_marks v_marks_n v_marks_a] → va_S A s.heap H locs → W p l e { frames := 0, cells := 0, slots := 0, locals := 0 } s m args below meth c H locs 0 0 (QI below D [(k_marks, .int)] (wX9_line k_marks h_ h_received h_marks h_sending h_waveHigh h_waveBeats h_runHigh h_runBeats v_divisor v_clocks v_wanted v_rowsOn v_level v_form v_outputs v_byteKept v_ins v_changed v_receivedMany v_sendingMany v_emptyUp v_lateUp v_lateCount v_waveMany v_lineIn v_sends v_sentCharacter v_sentForm v_sentBeat v_senderHigh v_takes v_sawHigh v_takenForm v_takenBeat v_takenBits v_takenParity v_beats v_out v_runs v_thrown v_marks_n u0) (u0.1) args s A) (F0 m 24 ls [.int s1, .int (bI s0)]) := by
    intro s0 s1 v_overrun v_marks_a H locs ls hF hl hP hD hS
    unfold F_X9_line_24 at hF
    refine lv_ior hx hb dX9_line_24 ?_
    refine lv_aload_n hx hb dX9_line_25 rfl (lv_at hl 0 rfl) ?_
    refine va_get (D := D) (ci := 8) (v := .int v_receivedMany) (C := RX9) (T := TX9) (N := 40) hx hb hts i_X9 hown hK hP 0 rfl rfl 12 (Nat.le_of_ble_eq_true rfl) f_70 (fun _ h9 => h9) rfl dX9_line_26 ?_
    refine lv_if_le (tgt := 41) hx hb dX9_line_29 (by decide) (fun c20 => ?_) (fun c20 => ?_)
    · replace hF := it_t c20 hF
      refine lv_iconst (v := 0) hx hb dX9_line_41 (by decide) ?_
      exact J42 ((bI s0) ||| s1) 0 v_overrun v_marks_a _ _ _ hF hl hP hD hS
    · replace hF := it_f c20 hF
      refine lv_aload_n hx hb dX9_line_32 rfl (lv_at hl 0 rfl) ?_
      refine va_get (D := D) (ci := 8) (v := .ref h_marks) (C := RX9) (T := TX9) (N := 40) hx hb hts i_X9 hown hK hP 0 rfl rfl 11 (Nat.le_of_ble_eq_true rfl) f_13 (fun _ h9 => h9) rfl dX9_line_33 ?_
      refine lv_iconst (v := 0) hx hb dX9_line_36 (by decide) ?_
      obtain ⟨g21, hF⟩ := gd_el hF
      refine va_iald hx hb hK hP 1 0 rfl rfl (inR_in g21) dX9_line_37 ?_
      refine lv_goto (tgt := 42) hx hb dX9_line_38 (by decide) ?_
      exact J42 ((bI s0) ||| s1) (v_marks_a (0 : Int32).toNatClampNeg) v_overrun v_marks_a _ _ _ hF hl hP hD hS
  have J12 : ∀ (s0 : Bool) (v_overrun : Bool) (v_marks_a : Nat → Int32) (H : Heap) (locs : List Loc) (ls : Array Slot), F_X9_line_12 v_rowsOn v_receivedMany v_sendingMany v_sends v_marks_n s0 v_overrun v_marks_a = some u0 → lv_has ls 4 [(0, .ref h_)] → va_P D vwCl [oX9 h_ v_divisor v_clocks v_wanted v_rowsOn v_level v_form v_outputs v_byteKept v_ins v_changed h_received h_marks v_receivedMany v_overrun h_sending v_sendingMany v_emptyUp v_lateUp v_lateCount h_waveHigh h_waveBeats v_waveMany v_lineIn v_sends v_sentCharacter v_sentForm v_sentBeat v_senderHigh v_takes v_sawHigh v_takenForm v_takenBeat v_takenBits v_takenParity v_beats v_out h_runHigh h_runBeats v_runs v_thrown, aI h_marks k_marks v_marks_n v_marks_a] H → va_D A [oX9 h_ v_divisor v_clocks v_wanted v_rowsOn v_level v_form v_outputs v_byteKept v_ins v_changed h_received h_marks v_receivedMany v_overrun h_sending v_sendingMany v_emptyUp v_lateUp v_lateCount h_waveHigh h_waveBeats v_waveMany v_lineIn v_sends v_sentCharacter v_sentForm v_sentBeat v_senderHigh v_takes v_sawHigh v_takenForm v_takenBeat v_takenBits v_takenParity v_beats v_out h_runHigh h_runBeats v_runs v_thrown, aI h_marks k_marks v_marks_n v_marks_a] → va_S A s.heap H locs → W p l e { frames := 0, cells := 0, slots := 0, locals := 0 } s m args below meth c H locs 0 0 (QI below D [(k_marks, .int)] (wX9_line k_marks h_ h_received h_marks h_sending h_waveHigh h_waveBeats h_runHigh h_runBeats v_divisor v_clocks v_wanted v_rowsOn v_level v_form v_outputs v_byteKept v_ins v_changed v_receivedMany v_sendingMany v_emptyUp v_lateUp v_lateCount v_waveMany v_lineIn v_sends v_sentCharacter v_sentForm v_sentBeat v_senderHigh v_takes v_sawHigh v_takenForm v_takenBeat v_takenBits v_takenParity v_beats v_out v_runs v_thrown v_marks_n u0) (u0.1) args s A) (F0 m 12 ls [.int (bI s0)]) := by
    intro s0 v_overrun v_marks_a H locs ls hF hl hP hD hS
    unfold F_X9_line_12 at hF
    refine lv_aload_n hx hb dX9_line_12 rfl (lv_at hl 0 rfl) ?_
    refine va_get (D := D) (ci := 8) (v := .int (bI v_overrun)) (C := RX9) (T := TX9) (N := 40) hx hb hts i_X9 hown hK hP 0 rfl rfl 13 (Nat.le_of_ble_eq_true rfl) f_73 (fun _ h9 => h9) rfl dX9_line_13 ?_
    refine lv_if_eq (tgt := 23) hx hb dX9_line_16 (by decide) (fun c22 => ?_) (fun c22 => ?_)
    · replace hF := bt_f (bI_0 c22) hF
      refine lv_iconst (v := 0) hx hb dX9_line_23 (by decide) ?_
      exact J24 s0 0 v_overrun v_marks_a _ _ _ hF hl hP hD hS
    · replace hF := bt_t (bI_n0 c22) hF
      refine lv_iconst (v := 2) hx hb dX9_line_19 (by decide) ?_
      refine lv_goto (tgt := 24) hx hb dX9_line_20 (by decide) ?_
      exact J24 s0 2 v_overrun v_marks_a _ _ _ hF hl hP hD hS
  unfold F_X9_line at hF
  refine lv_aload_n hx hb dX9_line_0 rfl (lv_at hl 0 rfl) ?_
  refine va_get (D := D) (ci := 8) (v := .int v_receivedMany) (C := RX9) (T := TX9) (N := 40) hx hb hts i_X9 hown hK hP 0 rfl rfl 12 (Nat.le_of_ble_eq_true rfl) f_70 (fun _ h9 => h9) rfl dX9_line_1 ?_
  refine lv_if_le (tgt := 11) hx hb dX9_line_4 (by decide) (fun c23 => ?_) (fun c23 => ?_)
  · replace hF := it_t c23 hF
    refine lv_iconst (v := 0) hx hb dX9_line_11 (by decide) ?_
    exact J12 false v_overrun v_marks_a _ _ _ hF hl hP hD hS
  · replace hF := it_f c23 hF
    refine lv_iconst (v := 1) hx hb dX9_line_7 (by decide) ?_
    refine lv_goto (tgt := 12) hx hb dX9_line_8 (by decide) ?_
    exact J12 true v_overrun v_marks_a _ _ _ hF hl hP hD hS
def F_X9_take_38_s (rec : Int32 → Int32 → Int32 → Bool → Int32 → (Nat → Int32) → (Nat → Int32) → Option (Int32 × Int32 × Bool × Int32 × (Nat → Int32) × (Nat → Int32))) (v_received_n : Nat) (v_marks_n : Nat) (l1 : Int32) (l2 : Int32) (v_receivedMany : Int32) (v_lateUp : Bool) (v_lateCount : Int32) (v_received_a : Nat → Int32) (v_marks_a : Nat → Int32) : Option (Int32 × Int32 × Bool × Int32 × (Nat → Int32) × (Nat → Int32)) := if v_receivedMany ≤ l2 then (some (l1, v_receivedMany, v_lateUp, v_lateCount, v_received_a, v_marks_a)) else (gd (inR (l2 + 1) v_received_n = true) (gd (inR l2 v_received_n = true) (gd (inR (l2 + 1) v_marks_n = true) (gd (inR l2 v_marks_n = true) (lt1 (l2 + 1) (fun x6 => rec l1 x6 v_receivedMany v_lateUp v_lateCount (upd v_received_a (l2.toNatClampNeg) (v_received_a (l2 + 1).toNatClampNeg)) (upd v_marks_a (l2.toNatClampNeg) (v_marks_a (l2 + 1).toNatClampNeg))))))))
def F_X9_take_38 (v_received_n : Nat) (v_marks_n : Nat) : Nat → Int32 → Int32 → Int32 → Bool → Int32 → (Nat → Int32) → (Nat → Int32) → Option (Int32 × Int32 × Bool × Int32 × (Nat → Int32) × (Nat → Int32))
  | 0 => fun _ _ _ _ _ _ _ => none
  | n + 1 => F_X9_take_38_s (F_X9_take_38 v_received_n v_marks_n n) v_received_n v_marks_n
def F_X9_take  (v_receivedMany : Int32) (v_lateUp : Bool) (v_lateCount : Int32) (v_received_n : Nat) (v_received_a : Nat → Int32) (v_marks_n : Nat) (v_marks_a : Nat → Int32) : Option (Int32 × Int32 × Bool × Int32 × (Nat → Int32) × (Nat → Int32)) := if v_receivedMany = 0 then (some (0, v_receivedMany, false, 0, v_received_a, v_marks_a)) else (gd (inR 0 v_received_n = true) (lt1 (v_received_a (0 : Int32).toNatClampNeg) (fun x9 => lt1 (v_receivedMany - 1) (fun x10 => F_X9_take_38 v_received_n v_marks_n 100000 x9 0 x10 false 0 v_received_a v_marks_a))))
def wX9_take (k_received : ClassId) (k_marks : ClassId) (h_ : Nat) (h_received : Nat) (h_marks : Nat) (h_sending : Nat) (h_waveHigh : Nat) (h_waveBeats : Nat) (h_runHigh : Nat) (h_runBeats : Nat) (v_divisor : Int32) (v_clocks : Int32) (v_wanted : Int32) (v_rowsOn : Bool) (v_level : Int32) (v_form : Int32) (v_outputs : Int32) (v_byteKept : Int32) (v_ins : Int32) (v_changed : Int32) (v_overrun : Bool) (v_sendingMany : Int32) (v_emptyUp : Bool) (v_waveMany : Int32) (v_lineIn : Bool) (v_sends : Bool) (v_sentCharacter : Int32) (v_sentForm : Int32) (v_sentBeat : Int32) (v_senderHigh : Bool) (v_takes : Bool) (v_sawHigh : Bool) (v_takenForm : Int32) (v_takenBeat : Int32) (v_takenBits : Int32) (v_takenParity : Int32) (v_beats : Int32) (v_out : Bool) (v_runs : Int32) (v_thrown : Int32) (v_received_n : Nat) (v_marks_n : Nat) (u : Int32 × Int32 × Bool × Int32 × (Nat → Int32) × (Nat → Int32)) : va_W := [oX9 h_ v_divisor v_clocks v_wanted v_rowsOn v_level v_form v_outputs v_byteKept v_ins v_changed h_received h_marks u.2.1 v_overrun h_sending v_sendingMany v_emptyUp u.2.2.1 u.2.2.2.1 h_waveHigh h_waveBeats v_waveMany v_lineIn v_sends v_sentCharacter v_sentForm v_sentBeat v_senderHigh v_takes v_sawHigh v_takenForm v_takenBeat v_takenBits v_takenParity v_beats v_out h_runHigh h_runBeats v_runs v_thrown, aI h_received k_received v_received_n u.2.2.2.2.1, aI h_marks k_marks v_marks_n u.2.2.2.2.2]
set_option maxHeartbeats 4000000 in
set_option maxRecDepth 100000 in
theorem mX9_take {l : Launch} (D : va_G) (k_received : ClassId) (k_marks : ClassId) (h_ : Nat) (h_received : Nat) (h_marks : Nat) (h_sending : Nat) (h_waveHigh : Nat) (h_waveBeats : Nat) (h_runHigh : Nat) (h_runBeats : Nat) (v_divisor : Int32) (v_clocks : Int32) (v_wanted : Int32) (v_rowsOn : Bool) (v_level : Int32) (v_form : Int32) (v_outputs : Int32) (v_byteKept : Int32) (v_ins : Int32) (v_changed : Int32) (v_receivedMany : Int32) (v_overrun : Bool) (v_sendingMany : Int32) (v_emptyUp : Bool) (v_lateUp : Bool) (v_lateCount : Int32) (v_waveMany : Int32) (v_lineIn : Bool) (v_sends : Bool) (v_sentCharacter : Int32) (v_sentForm : Int32) (v_sentBeat : Int32) (v_senderHigh : Bool) (v_takes : Bool) (v_sawHigh : Bool) (v_takenForm : Int32) (v_takenBeat : Int32) (v_takenBits : Int32) (v_takenParity : Int32) (v_beats : Int32) (v_out : Bool) (v_runs : Int32) (v_thrown : Int32) (v_received_n : Nat) (v_received_a : Nat → Int32) (v_marks_n : Nat) (v_marks_a : Nat → Int32) (u0 : Int32 × Int32 × Bool × Int32 × (Nat → Int32) × (Nat → Int32)) (hF : F_X9_take v_receivedMany v_lateUp v_lateCount v_received_n v_received_a v_marks_n v_marks_a = some u0) : MI l yX9_take wsX9_take { frames := 0, cells := 0, slots := 0, locals := 0 } D [(k_received, .int), (k_marks, .int)] [.ref h_] [oX9 h_ v_divisor v_clocks v_wanted v_rowsOn v_level v_form v_outputs v_byteKept v_ins v_changed h_received h_marks v_receivedMany v_overrun h_sending v_sendingMany v_emptyUp v_lateUp v_lateCount h_waveHigh h_waveBeats v_waveMany v_lineIn v_sends v_sentCharacter v_sentForm v_sentBeat v_senderHigh v_takes v_sawHigh v_takenForm v_takenBeat v_takenBits v_takenParity v_beats v_out h_runHigh h_runBeats v_runs v_thrown, aI h_received k_received v_received_n v_received_a, aI h_marks k_marks v_marks_n v_marks_a] (wX9_take k_received k_marks h_ h_received h_marks h_sending h_waveHigh h_waveBeats h_runHigh h_runBeats v_divisor v_clocks v_wanted v_rowsOn v_level v_form v_outputs v_byteKept v_ins v_changed v_overrun v_sendingMany v_emptyUp v_waveMany v_lineIn v_sends v_sentCharacter v_sentForm v_sentBeat v_senderHigh v_takes v_sawHigh v_takenForm v_takenBeat v_takenBits v_takenParity v_beats v_out v_runs v_thrown v_received_n v_marks_n u0) (u0.1) := by
  refine MI.ofW (cc := cX9_take) (maxL := 3) (ret := (some .int)) (lv := [(0, .ref h_)]) (by decide +kernel) rfl (Nat.le_of_ble_eq_true rfl) rfl ?_
  intro p e s m args below meth c A ls hx hb hr hml hts hown hlocks hA hK hP hD hS hl
  replace hown : s.vm.findClass RX9 = some m.cls := hown
  have i_X9 : ∀ w ∈ wsX90, w ∈ wsX9_take := by decide +kernel
  have f_9 := hts (.fieldLink RX9 9 "SerialPortModel" "received" "[I") (by decide +kernel)
  have f_13 := hts (.fieldLink RX9 13 "SerialPortModel" "marks" "[I") (by decide +kernel)
  have f_70 := hts (.fieldLink RX9 70 "SerialPortModel" "receivedMany" "I") (by decide +kernel)
  have f_82 := hts (.fieldLink RX9 82 "SerialPortModel" "lateUp" "Z") (by decide +kernel)
  have f_85 := hts (.fieldLink RX9 85 "SerialPortModel" "lateCount" "I") (by decide +kernel)
  have hret : ∀ (u : Int32 × Int32 × Bool × Int32 × (Nat → Int32) × (Nat → Int32)) (v : Int32) (H : Heap) (locs : List Loc) (pc : Nat) (ls : Array Slot), va_P D vwCl (wX9_take k_received k_marks h_ h_received h_marks h_sending h_waveHigh h_waveBeats h_runHigh h_runBeats v_divisor v_clocks v_wanted v_rowsOn v_level v_form v_outputs v_byteKept v_ins v_changed v_overrun v_sendingMany v_emptyUp v_waveMany v_lineIn v_sends v_sentCharacter v_sentForm v_sentBeat v_senderHigh v_takes v_sawHigh v_takenForm v_takenBeat v_takenBits v_takenParity v_beats v_out v_runs v_thrown v_received_n v_marks_n u) H → va_D A (wX9_take k_received k_marks h_ h_received h_marks h_sending h_waveHigh h_waveBeats h_runHigh h_runBeats v_divisor v_clocks v_wanted v_rowsOn v_level v_form v_outputs v_byteKept v_ins v_changed v_overrun v_sendingMany v_emptyUp v_waveMany v_lineIn v_sends v_sentCharacter v_sentForm v_sentBeat v_senderHigh v_takes v_sawHigh v_takenForm v_takenBeat v_takenBits v_takenParity v_beats v_out v_runs v_thrown v_received_n v_marks_n u) → va_S A s.heap H locs → some u = some u0 → v = u.1 → decode cX9_take pc = .ok (.ireturn, 1) → W p l e { frames := 0, cells := 0, slots := 0, locals := 0 } s m args below meth c H locs 0 0 (QI below D [(k_received, .int), (k_marks, .int)] (wX9_take k_received k_marks h_ h_received h_marks h_sending h_waveHigh h_waveBeats h_runHigh h_runBeats v_divisor v_clocks v_wanted v_rowsOn v_level v_form v_outputs v_byteKept v_ins v_changed v_overrun v_sendingMany v_emptyUp v_waveMany v_lineIn v_sends v_sentCharacter v_sentForm v_sentBeat v_senderHigh v_takes v_sawHigh v_takenForm v_takenBeat v_takenBits v_takenParity v_beats v_out v_runs v_thrown v_received_n v_marks_n u0) (u0.1) args s A) (F0 m pc ls [.int v]) := fun u v H locs pc ls h1 h2 h3 h4 h5 h6 => rI (wf := wX9_take k_received k_marks h_ h_received h_marks h_sending h_waveHigh h_waveBeats h_runHigh h_runBeats v_divisor v_clocks v_wanted v_rowsOn v_level v_form v_outputs v_byteKept v_ins v_changed v_overrun v_sendingMany v_emptyUp v_waveMany v_lineIn v_sends v_sentCharacter v_sentForm v_sentBeat v_senderHigh v_takes v_sawHigh v_takenForm v_takenBeat v_takenBits v_takenParity v_beats v_out v_runs v_thrown v_received_n v_marks_n) (rf := fun u => u.1) hx hb hr hlocks hK h1 h2 h3 h4 h5 h6
  have J38 : ∀ (n : Nat) (l1 : Int32) (l2 : Int32) (v_receivedMany : Int32) (v_lateUp : Bool) (v_lateCount : Int32) (v_received_a : Nat → Int32) (v_marks_a : Nat → Int32) (H : Heap) (locs : List Loc) (ls : Array Slot), F_X9_take_38 v_received_n v_marks_n n l1 l2 v_receivedMany v_lateUp v_lateCount v_received_a v_marks_a = some u0 → lv_has ls 3 [(0, .ref h_), (1, .int l1), (2, .int l2)] → va_P D vwCl [oX9 h_ v_divisor v_clocks v_wanted v_rowsOn v_level v_form v_outputs v_byteKept v_ins v_changed h_received h_marks v_receivedMany v_overrun h_sending v_sendingMany v_emptyUp v_lateUp v_lateCount h_waveHigh h_waveBeats v_waveMany v_lineIn v_sends v_sentCharacter v_sentForm v_sentBeat v_senderHigh v_takes v_sawHigh v_takenForm v_takenBeat v_takenBits v_takenParity v_beats v_out h_runHigh h_runBeats v_runs v_thrown, aI h_received k_received v_received_n v_received_a, aI h_marks k_marks v_marks_n v_marks_a] H → va_D A [oX9 h_ v_divisor v_clocks v_wanted v_rowsOn v_level v_form v_outputs v_byteKept v_ins v_changed h_received h_marks v_receivedMany v_overrun h_sending v_sendingMany v_emptyUp v_lateUp v_lateCount h_waveHigh h_waveBeats v_waveMany v_lineIn v_sends v_sentCharacter v_sentForm v_sentBeat v_senderHigh v_takes v_sawHigh v_takenForm v_takenBeat v_takenBits v_takenParity v_beats v_out h_runHigh h_runBeats v_runs v_thrown, aI h_received k_received v_received_n v_received_a, aI h_marks k_marks v_marks_n v_marks_a] → va_S A s.heap H locs → W p l e { frames := 0, cells := 0, slots := 0, locals := 0 } s m args below meth c H locs 0 0 (QI below D [(k_received, .int), (k_marks, .int)] (wX9_take k_received k_marks h_ h_received h_marks h_sending h_waveHigh h_waveBeats h_runHigh h_runBeats v_divisor v_clocks v_wanted v_rowsOn v_level v_form v_outputs v_byteKept v_ins v_changed v_overrun v_sendingMany v_emptyUp v_waveMany v_lineIn v_sends v_sentCharacter v_sentForm v_sentBeat v_senderHigh v_takes v_sawHigh v_takenForm v_takenBeat v_takenBits v_takenParity v_beats v_out v_runs v_thrown v_received_n v_marks_n u0) (u0.1) args s A) (F0 m 38 ls []) := by
    intro n
    induction n with
    | zero =>
      intro l1 l2 v_receivedMany v_lateUp v_lateCount v_received_a v_marks_a H locs ls hF hl hP hD hS
      have hF : (none : Option (Int32 × Int32 × Bool × Int32 × (Nat → Int32) × (Nat → Int32))) = some u0 := hF
      cases hF
    | succ n ih =>
      intro l1 l2 v_receivedMany v_lateUp v_lateCount v_received_a v_marks_a H locs ls hF hl hP hD hS
      replace hF : F_X9_take_38_s (F_X9_take_38 v_received_n v_marks_n n) v_received_n v_marks_n l1 l2 v_receivedMany v_lateUp v_lateCount v_received_a v_marks_a = some u0 := hF
      unfold F_X9_take_38_s at hF
      refine lv_iload_n hx hb dX9_take_38 rfl (lv_at hl 2 rfl) ?_
      refine lv_aload_n hx hb dX9_take_39 rfl (lv_at hl 0 rfl) ?_
      refine va_get (D := D) (ci := 8) (v := .int v_receivedMany) (C := RX9) (T := TX9) (N := 40) hx hb hts i_X9 hown hK hP 0 rfl rfl 12 (Nat.le_of_ble_eq_true rfl) f_70 (fun _ h9 => h9) rfl dX9_take_40 ?_
      refine lv_icmp_ge (tgt := 80) hx hb dX9_take_43 (by decide) (fun c1 => ?_) (fun c1 => ?_)
      · replace hF := it_t c1 hF
        refine lv_iload_n hx hb dX9_take_80 rfl (lv_at hl 1 rfl) ?_
        exact hret (l1, v_receivedMany, v_lateUp, v_lateCount, v_received_a, v_marks_a) l1 _ _ 81 _ hP hD hS hF rfl dX9_take_81
      · replace hF := it_f c1 hF
        refine lv_aload_n hx hb dX9_take_46 rfl (lv_at hl 0 rfl) ?_
        refine va_get (D := D) (ci := 8) (v := .ref h_received) (C := RX9) (T := TX9) (N := 40) hx hb hts i_X9 hown hK hP 0 rfl rfl 10 (Nat.le_of_ble_eq_true rfl) f_9 (fun _ h9 => h9) rfl dX9_take_47 ?_
        refine lv_iload_n hx hb dX9_take_50 rfl (lv_at hl 2 rfl) ?_
        refine lv_aload_n hx hb dX9_take_51 rfl (lv_at hl 0 rfl) ?_
        refine va_get (D := D) (ci := 8) (v := .ref h_received) (C := RX9) (T := TX9) (N := 40) hx hb hts i_X9 hown hK hP 0 rfl rfl 10 (Nat.le_of_ble_eq_true rfl) f_9 (fun _ h9 => h9) rfl dX9_take_52 ?_
        refine lv_iload_n hx hb dX9_take_55 rfl (lv_at hl 2 rfl) ?_
        refine lv_iconst (v := 1) hx hb dX9_take_56 (by decide) ?_
        refine lv_iadd hx hb dX9_take_57 ?_
        obtain ⟨g2, hF⟩ := gd_el hF
        refine va_iald hx hb hK hP 1 0 rfl rfl (inR_in g2) dX9_take_58 ?_
        obtain ⟨g3, hF⟩ := gd_el hF
        refine ias (ws' := [oX9 h_ v_divisor v_clocks v_wanted v_rowsOn v_level v_form v_outputs v_byteKept v_ins v_changed h_received h_marks v_receivedMany v_overrun h_sending v_sendingMany v_emptyUp v_lateUp v_lateCount h_waveHigh h_waveBeats v_waveMany v_lineIn v_sends v_sentCharacter v_sentForm v_sentBeat v_senderHigh v_takes v_sawHigh v_takenForm v_takenBeat v_takenBits v_takenParity v_beats v_out h_runHigh h_runBeats v_runs v_thrown, aI h_received k_received v_received_n (upd v_received_a (l2.toNatClampNeg) (v_received_a (l2 + 1).toNatClampNeg)), aI h_marks k_marks v_marks_n v_marks_a]) hx hb hK hP hD hS 1 0 rfl rfl g3 rfl dX9_take_59 (fun H locs hP hD hS => ?_)
        refine lv_aload_n hx hb dX9_take_60 rfl (lv_at hl 0 rfl) ?_
        refine va_get (D := D) (ci := 8) (v := .ref h_marks) (C := RX9) (T := TX9) (N := 40) hx hb hts i_X9 hown hK hP 0 rfl rfl 11 (Nat.le_of_ble_eq_true rfl) f_13 (fun _ h9 => h9) rfl dX9_take_61 ?_
        refine lv_iload_n hx hb dX9_take_64 rfl (lv_at hl 2 rfl) ?_
        refine lv_aload_n hx hb dX9_take_65 rfl (lv_at hl 0 rfl) ?_
        refine va_get (D := D) (ci := 8) (v := .ref h_marks) (C := RX9) (T := TX9) (N := 40) hx hb hts i_X9 hown hK hP 0 rfl rfl 11 (Nat.le_of_ble_eq_true rfl) f_13 (fun _ h9 => h9) rfl dX9_take_66 ?_
        refine lv_iload_n hx hb dX9_take_69 rfl (lv_at hl 2 rfl) ?_
        refine lv_iconst (v := 1) hx hb dX9_take_70 (by decide) ?_
        refine lv_iadd hx hb dX9_take_71 ?_
        obtain ⟨g4, hF⟩ := gd_el hF
        refine va_iald hx hb hK hP 2 1 rfl rfl (inR_in g4) dX9_take_72 ?_
        obtain ⟨g5, hF⟩ := gd_el hF
        refine ias (ws' := [oX9 h_ v_divisor v_clocks v_wanted v_rowsOn v_level v_form v_outputs v_byteKept v_ins v_changed h_received h_marks v_receivedMany v_overrun h_sending v_sendingMany v_emptyUp v_lateUp v_lateCount h_waveHigh h_waveBeats v_waveMany v_lineIn v_sends v_sentCharacter v_sentForm v_sentBeat v_senderHigh v_takes v_sawHigh v_takenForm v_takenBeat v_takenBits v_takenParity v_beats v_out h_runHigh h_runBeats v_runs v_thrown, aI h_received k_received v_received_n (upd v_received_a (l2.toNatClampNeg) (v_received_a (l2 + 1).toNatClampNeg)), aI h_marks k_marks v_marks_n (upd v_marks_a (l2.toNatClampNeg) (v_marks_a (l2 + 1).toNatClampNeg))]) hx hb hK hP hD hS 2 1 rfl rfl g5 rfl dX9_take_73 (fun H locs hP hD hS => ?_)
        obtain ⟨x6, ex6⟩ : ∃ y : Int32, y = l2 + 1 := ⟨_, rfl⟩
        replace hF := lt1_x ex6 hF
        refine lv_iinc (v := x6) (lv' := [(2, .int x6), (0, .ref h_), (1, .int l1)]) hx hb dX9_take_74 hl (k := 2) rfl (by rw [ex6]; rfl) (Nat.le_of_ble_eq_true rfl) rfl (fun ls hl => ?_)
        refine lv_goto (tgt := 38) hx hb dX9_take_77 (by decide) ?_
        exact ih l1 x6 v_receivedMany v_lateUp v_lateCount (upd v_received_a (l2.toNatClampNeg) (v_received_a (l2 + 1).toNatClampNeg)) (upd v_marks_a (l2.toNatClampNeg) (v_marks_a (l2 + 1).toNatClampNeg)) _ _ _ hF (lv_sub hl [1, 2, 0] rfl) hP hD hS
  unfold F_X9_take at hF
  refine lv_aload_n hx hb dX9_take_0 rfl (lv_at hl 0 rfl) ?_
  refine lv_iconst (v := 0) hx hb dX9_take_1 (by decide) ?_
  refine pf (ci := 8) (v := .int (bI false)) (ty := .boolean) (C := RX9) (T := TX9) (N := 40) (ws' := [oX9 h_ v_divisor v_clocks v_wanted v_rowsOn v_level v_form v_outputs v_byteKept v_ins v_changed h_received h_marks v_receivedMany v_overrun h_sending v_sendingMany v_emptyUp false v_lateCount h_waveHigh h_waveBeats v_waveMany v_lineIn v_sends v_sentCharacter v_sentForm v_sentBeat v_senderHigh v_takes v_sawHigh v_takenForm v_takenBeat v_takenBits v_takenParity v_beats v_out h_runHigh h_runBeats v_runs v_thrown, aI h_received k_received v_received_n v_received_a, aI h_marks k_marks v_marks_n v_marks_a]) hx hb hts i_X9 tyX9_ok nmX9 hown hK hP hD hS 0 rfl rfl 17 (Nat.le_of_ble_eq_true rfl) f_82 rfl rfl (by decide +kernel) (nar_bI false) (fit_bI false) (Nat.le_of_ble_eq_true rfl) rfl dX9_take_2 (fun H locs hP hD hS => ?_)
  refine lv_aload_n hx hb dX9_take_5 rfl (lv_at hl 0 rfl) ?_
  refine lv_iconst (v := 0) hx hb dX9_take_6 (by decide) ?_
  refine pf (ci := 8) (v := .int 0) (ty := .int) (C := RX9) (T := TX9) (N := 40) (ws' := [oX9 h_ v_divisor v_clocks v_wanted v_rowsOn v_level v_form v_outputs v_byteKept v_ins v_changed h_received h_marks v_receivedMany v_overrun h_sending v_sendingMany v_emptyUp false 0 h_waveHigh h_waveBeats v_waveMany v_lineIn v_sends v_sentCharacter v_sentForm v_sentBeat v_senderHigh v_takes v_sawHigh v_takenForm v_takenBeat v_takenBits v_takenParity v_beats v_out h_runHigh h_runBeats v_runs v_thrown, aI h_received k_received v_received_n v_received_a, aI h_marks k_marks v_marks_n v_marks_a]) hx hb hts i_X9 tyX9_ok nmX9 hown hK hP hD hS 0 rfl rfl 18 (Nat.le_of_ble_eq_true rfl) f_85 rfl rfl (by decide +kernel) rfl rfl (Nat.le_of_ble_eq_true rfl) rfl dX9_take_7 (fun H locs hP hD hS => ?_)
  refine lv_aload_n hx hb dX9_take_10 rfl (lv_at hl 0 rfl) ?_
  refine va_get (D := D) (ci := 8) (v := .int v_receivedMany) (C := RX9) (T := TX9) (N := 40) hx hb hts i_X9 hown hK hP 0 rfl rfl 12 (Nat.le_of_ble_eq_true rfl) f_70 (fun _ h9 => h9) rfl dX9_take_11 ?_
  refine lv_if_ne (tgt := 19) hx hb dX9_take_14 (by decide) (fun c7 => ?_) (fun c7 => ?_)
  · replace hF := it_f c7 hF
    refine lv_aload_n hx hb dX9_take_19 rfl (lv_at hl 0 rfl) ?_
    refine va_get (D := D) (ci := 8) (v := .ref h_received) (C := RX9) (T := TX9) (N := 40) hx hb hts i_X9 hown hK hP 0 rfl rfl 10 (Nat.le_of_ble_eq_true rfl) f_9 (fun _ h9 => h9) rfl dX9_take_20 ?_
    refine lv_iconst (v := 0) hx hb dX9_take_23 (by decide) ?_
    obtain ⟨g8, hF⟩ := gd_el hF
    refine va_iald hx hb hK hP 1 0 rfl rfl (inR_in g8) dX9_take_24 ?_
    refine lv_topi (fun x9 ex9 => ?_)
    replace hF := lt1_x ex9 hF
    refine lv_istore_n (lv' := [(1, .int x9), (0, .ref h_)]) hx hb dX9_take_25 rfl hl (Nat.le_of_ble_eq_true rfl) rfl (fun ls hl => ?_)
    refine lv_aload_n hx hb dX9_take_26 rfl (lv_at hl 1 rfl) ?_
    refine lv_dup hx hb dX9_take_27 rfl ?_
    refine va_get (D := D) (ci := 8) (v := .int v_receivedMany) (C := RX9) (T := TX9) (N := 40) hx hb hts i_X9 hown hK hP 0 rfl rfl 12 (Nat.le_of_ble_eq_true rfl) f_70 (fun _ h9 => h9) rfl dX9_take_28 ?_
    refine lv_iconst (v := 1) hx hb dX9_take_31 (by decide) ?_
    refine lv_isub hx hb dX9_take_32 ?_
    refine lv_topi (fun x10 ex10 => ?_)
    replace hF := lt1_x ex10 hF
    refine pf (ci := 8) (v := .int x10) (ty := .int) (C := RX9) (T := TX9) (N := 40) (ws' := [oX9 h_ v_divisor v_clocks v_wanted v_rowsOn v_level v_form v_outputs v_byteKept v_ins v_changed h_received h_marks x10 v_overrun h_sending v_sendingMany v_emptyUp false 0 h_waveHigh h_waveBeats v_waveMany v_lineIn v_sends v_sentCharacter v_sentForm v_sentBeat v_senderHigh v_takes v_sawHigh v_takenForm v_takenBeat v_takenBits v_takenParity v_beats v_out h_runHigh h_runBeats v_runs v_thrown, aI h_received k_received v_received_n v_received_a, aI h_marks k_marks v_marks_n v_marks_a]) hx hb hts i_X9 tyX9_ok nmX9 hown hK hP hD hS 0 rfl rfl 12 (Nat.le_of_ble_eq_true rfl) f_70 rfl rfl (by decide +kernel) rfl rfl (Nat.le_of_ble_eq_true rfl) rfl dX9_take_33 (fun H locs hP hD hS => ?_)
    refine lv_iconst (v := 0) hx hb dX9_take_36 (by decide) ?_
    refine lv_istore_n (lv' := [(2, .int 0), (1, .int x9), (0, .ref h_)]) hx hb dX9_take_37 rfl hl (Nat.le_of_ble_eq_true rfl) rfl (fun ls hl => ?_)
    exact J38 100000 x9 0 x10 false 0 v_received_a v_marks_a _ _ _ hF (lv_sub hl [2, 1, 0] rfl) hP hD hS
  · replace hF := it_t c7 hF
    refine lv_iconst (v := 0) hx hb dX9_take_17 (by decide) ?_
    exact hret (0, v_receivedMany, false, 0, v_received_a, v_marks_a) 0 _ _ 18 _ hP hD hS hF rfl dX9_take_18
def F_X9_read_112 (v_divisor : Int32) (v_wanted : Int32) (v_rowsOn : Bool) (v_level : Int32) (v_form : Int32) (v_outputs : Int32) (v_byteKept : Int32) (v_ins : Int32) (v_sendingMany : Int32) (v_sends : Bool) (v_received_n : Nat) (v_marks_n : Nat) (l2 : Int32) (v_changed : Int32) (v_receivedMany : Int32) (v_overrun : Bool) (v_emptyUp : Bool) (v_lateUp : Bool) (v_lateCount : Int32) (v_thrown : Int32) (v_received_a : Nat → Int32) (v_marks_a : Nat → Int32) : Option (Int32 × Int32 × Int32 × Bool × Bool × Bool × Int32 × Int32 × (Nat → Int32) × (Nat → Int32)) := bt v_rowsOn (some ((l2 ||| 192), v_changed, v_receivedMany, v_overrun, v_emptyUp, v_lateUp, v_lateCount, v_thrown, v_received_a, v_marks_a)) (some ((l2 ||| 0), v_changed, v_receivedMany, v_overrun, v_emptyUp, v_lateUp, v_lateCount, v_thrown, v_received_a, v_marks_a))
def F_X9_read (p1 : Int32) (v_divisor : Int32) (v_wanted : Int32) (v_rowsOn : Bool) (v_level : Int32) (v_form : Int32) (v_outputs : Int32) (v_byteKept : Int32) (v_ins : Int32) (v_changed : Int32) (v_receivedMany : Int32) (v_overrun : Bool) (v_sendingMany : Int32) (v_emptyUp : Bool) (v_lateUp : Bool) (v_lateCount : Int32) (v_sends : Bool) (v_thrown : Int32) (v_received_n : Nat) (v_received_a : Nat → Int32) (v_marks_n : Nat) (v_marks_a : Nat → Int32) : Option (Int32 × Int32 × Int32 × Bool × Bool × Bool × Int32 × Int32 × (Nat → Int32) × (Nat → Int32)) := if p1 = 0 then (bd (F_X9_dlab v_form) (fun u3 => bt u3 (some ((v_divisor &&& 255), v_changed, v_receivedMany, v_overrun, v_emptyUp, v_lateUp, v_lateCount, 0, v_received_a, v_marks_a)) (bd (F_X9_take v_receivedMany v_lateUp v_lateCount v_received_n v_received_a v_marks_n v_marks_a) (fun u5 => some (u5.1, v_changed, u5.2.1, v_overrun, v_emptyUp, u5.2.2.1, u5.2.2.2.1, 0, u5.2.2.2.2.1, u5.2.2.2.2.2))))) else (if p1 = 1 then (bd (F_X9_dlab v_form) (fun u7 => bt u7 (some ((v_divisor >>> ((8 : Int32) &&& 31)), v_changed, v_receivedMany, v_overrun, v_emptyUp, v_lateUp, v_lateCount, 0, v_received_a, v_marks_a)) (some (v_wanted, v_changed, v_receivedMany, v_overrun, v_emptyUp, v_lateUp, v_lateCount, 0, v_received_a, v_marks_a)))) else (if p1 = 2 then (bd (F_X9_reason v_wanted v_rowsOn v_level v_changed v_receivedMany v_overrun v_emptyUp v_lateUp v_marks_n v_marks_a) (fun u10 => if u10 = 2 then (F_X9_read_112 v_divisor v_wanted v_rowsOn v_level v_form v_outputs v_byteKept v_ins v_sendingMany v_sends v_received_n v_marks_n u10 v_changed v_receivedMany v_overrun false v_lateUp v_lateCount 0 v_received_a v_marks_a) else (F_X9_read_112 v_divisor v_wanted v_rowsOn v_level v_form v_outputs v_byteKept v_ins v_sendingMany v_sends v_received_n v_marks_n u10 v_changed v_receivedMany v_overrun v_emptyUp v_lateUp v_lateCount 0 v_received_a v_marks_a))) else (if p1 = 3 then (some (v_form, v_changed, v_receivedMany, v_overrun, v_emptyUp, v_lateUp, v_lateCount, 0, v_received_a, v_marks_a)) else (if p1 = 4 then (some (v_outputs, v_changed, v_receivedMany, v_overrun, v_emptyUp, v_lateUp, v_lateCount, 0, v_received_a, v_marks_a)) else (if p1 = 5 then (bd (F_X9_line v_rowsOn v_receivedMany v_overrun v_sendingMany v_sends v_marks_n v_marks_a) (fun u15 => some (u15.1, v_changed, v_receivedMany, u15.2.1, v_emptyUp, v_lateUp, v_lateCount, 0, v_received_a, u15.2.2))) else (if p1 = 6 then (bd (F_X9_lines v_outputs v_ins) (fun u17 => lt1 (v_changed ||| (u17 <<< ((4 : Int32) &&& 31))) (fun x18 => some (x18, 0, v_receivedMany, v_overrun, v_emptyUp, v_lateUp, v_lateCount, 0, v_received_a, v_marks_a)))) else (if p1 = 7 then (some (v_byteKept, v_changed, v_receivedMany, v_overrun, v_emptyUp, v_lateUp, v_lateCount, 0, v_received_a, v_marks_a)) else (some (0, v_changed, v_receivedMany, v_overrun, v_emptyUp, v_lateUp, v_lateCount, 1, v_received_a, v_marks_a)))))))))
def wX9_read (k_received : ClassId) (k_marks : ClassId) (h_ : Nat) (h_received : Nat) (h_marks : Nat) (h_sending : Nat) (h_waveHigh : Nat) (h_waveBeats : Nat) (h_runHigh : Nat) (h_runBeats : Nat) (v_divisor : Int32) (v_clocks : Int32) (v_wanted : Int32) (v_rowsOn : Bool) (v_level : Int32) (v_form : Int32) (v_outputs : Int32) (v_byteKept : Int32) (v_ins : Int32) (v_sendingMany : Int32) (v_waveMany : Int32) (v_lineIn : Bool) (v_sends : Bool) (v_sentCharacter : Int32) (v_sentForm : Int32) (v_sentBeat : Int32) (v_senderHigh : Bool) (v_takes : Bool) (v_sawHigh : Bool) (v_takenForm : Int32) (v_takenBeat : Int32) (v_takenBits : Int32) (v_takenParity : Int32) (v_beats : Int32) (v_out : Bool) (v_runs : Int32) (v_received_n : Nat) (v_marks_n : Nat) (u : Int32 × Int32 × Int32 × Bool × Bool × Bool × Int32 × Int32 × (Nat → Int32) × (Nat → Int32)) : va_W := [oX9 h_ v_divisor v_clocks v_wanted v_rowsOn v_level v_form v_outputs v_byteKept v_ins u.2.1 h_received h_marks u.2.2.1 u.2.2.2.1 h_sending v_sendingMany u.2.2.2.2.1 u.2.2.2.2.2.1 u.2.2.2.2.2.2.1 h_waveHigh h_waveBeats v_waveMany v_lineIn v_sends v_sentCharacter v_sentForm v_sentBeat v_senderHigh v_takes v_sawHigh v_takenForm v_takenBeat v_takenBits v_takenParity v_beats v_out h_runHigh h_runBeats v_runs u.2.2.2.2.2.2.2.1, aI h_received k_received v_received_n u.2.2.2.2.2.2.2.2.1, aI h_marks k_marks v_marks_n u.2.2.2.2.2.2.2.2.2]
set_option maxHeartbeats 4000000 in
set_option maxRecDepth 100000 in
theorem mX9_read {l : Launch} (D : va_G) (k_received : ClassId) (k_marks : ClassId) (h_ : Nat) (h_received : Nat) (h_marks : Nat) (h_sending : Nat) (h_waveHigh : Nat) (h_waveBeats : Nat) (h_runHigh : Nat) (h_runBeats : Nat) (v_divisor : Int32) (v_clocks : Int32) (v_wanted : Int32) (v_rowsOn : Bool) (v_level : Int32) (v_form : Int32) (v_outputs : Int32) (v_byteKept : Int32) (v_ins : Int32) (v_changed : Int32) (v_receivedMany : Int32) (v_overrun : Bool) (v_sendingMany : Int32) (v_emptyUp : Bool) (v_lateUp : Bool) (v_lateCount : Int32) (v_waveMany : Int32) (v_lineIn : Bool) (v_sends : Bool) (v_sentCharacter : Int32) (v_sentForm : Int32) (v_sentBeat : Int32) (v_senderHigh : Bool) (v_takes : Bool) (v_sawHigh : Bool) (v_takenForm : Int32) (v_takenBeat : Int32) (v_takenBits : Int32) (v_takenParity : Int32) (v_beats : Int32) (v_out : Bool) (v_runs : Int32) (v_thrown : Int32) (v_received_n : Nat) (v_received_a : Nat → Int32) (v_marks_n : Nat) (v_marks_a : Nat → Int32) (p1 : Int32) (u0 : Int32 × Int32 × Int32 × Bool × Bool × Bool × Int32 × Int32 × (Nat → Int32) × (Nat → Int32)) (hF : F_X9_read p1 v_divisor v_wanted v_rowsOn v_level v_form v_outputs v_byteKept v_ins v_changed v_receivedMany v_overrun v_sendingMany v_emptyUp v_lateUp v_lateCount v_sends v_thrown v_received_n v_received_a v_marks_n v_marks_a = some u0) : MI l yX9_read wsX9_read { frames := 2, cells := 0, slots := 0, locals := 40 } D [(k_received, .int), (k_marks, .int)] [.ref h_, .int p1] [oX9 h_ v_divisor v_clocks v_wanted v_rowsOn v_level v_form v_outputs v_byteKept v_ins v_changed h_received h_marks v_receivedMany v_overrun h_sending v_sendingMany v_emptyUp v_lateUp v_lateCount h_waveHigh h_waveBeats v_waveMany v_lineIn v_sends v_sentCharacter v_sentForm v_sentBeat v_senderHigh v_takes v_sawHigh v_takenForm v_takenBeat v_takenBits v_takenParity v_beats v_out h_runHigh h_runBeats v_runs v_thrown, aI h_received k_received v_received_n v_received_a, aI h_marks k_marks v_marks_n v_marks_a] (wX9_read k_received k_marks h_ h_received h_marks h_sending h_waveHigh h_waveBeats h_runHigh h_runBeats v_divisor v_clocks v_wanted v_rowsOn v_level v_form v_outputs v_byteKept v_ins v_sendingMany v_waveMany v_lineIn v_sends v_sentCharacter v_sentForm v_sentBeat v_senderHigh v_takes v_sawHigh v_takenForm v_takenBeat v_takenBits v_takenParity v_beats v_out v_runs v_received_n v_marks_n u0) (u0.1) := by
  refine MI.ofW (cc := cX9_read) (maxL := 3) (ret := (some .int)) (lv := [(0, .ref h_), (1, .int p1)]) (by decide +kernel) rfl (Nat.le_of_ble_eq_true rfl) rfl ?_
  intro p e s m args below meth c A ls hx hb hr hml hts hown hlocks hA hK hP hD hS hl
  replace hown : s.vm.findClass RX9 = some m.cls := hown
  have i_X9 : ∀ w ∈ wsX90, w ∈ wsX9_read := by decide +kernel
  have f_35 := hts (.fieldLink RX9 35 "SerialPortModel" "thrown" "I") (by decide +kernel)
  have f_39 := hts (.fieldLink RX9 39 "SerialPortModel" "divisor" "I") (by decide +kernel)
  have f_45 := hts (.fieldLink RX9 45 "SerialPortModel" "wanted" "I") (by decide +kernel)
  have f_48 := hts (.fieldLink RX9 48 "SerialPortModel" "rowsOn" "Z") (by decide +kernel)
  have f_55 := hts (.fieldLink RX9 55 "SerialPortModel" "form" "I") (by decide +kernel)
  have f_58 := hts (.fieldLink RX9 58 "SerialPortModel" "outputs" "I") (by decide +kernel)
  have f_61 := hts (.fieldLink RX9 61 "SerialPortModel" "byteKept" "I") (by decide +kernel)
  have f_67 := hts (.fieldLink RX9 67 "SerialPortModel" "changed" "I") (by decide +kernel)
  have f_79 := hts (.fieldLink RX9 79 "SerialPortModel" "emptyUp" "Z") (by decide +kernel)
  have hret : ∀ (u : Int32 × Int32 × Int32 × Bool × Bool × Bool × Int32 × Int32 × (Nat → Int32) × (Nat → Int32)) (v : Int32) (H : Heap) (locs : List Loc) (pc : Nat) (ls : Array Slot), va_P D vwCl (wX9_read k_received k_marks h_ h_received h_marks h_sending h_waveHigh h_waveBeats h_runHigh h_runBeats v_divisor v_clocks v_wanted v_rowsOn v_level v_form v_outputs v_byteKept v_ins v_sendingMany v_waveMany v_lineIn v_sends v_sentCharacter v_sentForm v_sentBeat v_senderHigh v_takes v_sawHigh v_takenForm v_takenBeat v_takenBits v_takenParity v_beats v_out v_runs v_received_n v_marks_n u) H → va_D A (wX9_read k_received k_marks h_ h_received h_marks h_sending h_waveHigh h_waveBeats h_runHigh h_runBeats v_divisor v_clocks v_wanted v_rowsOn v_level v_form v_outputs v_byteKept v_ins v_sendingMany v_waveMany v_lineIn v_sends v_sentCharacter v_sentForm v_sentBeat v_senderHigh v_takes v_sawHigh v_takenForm v_takenBeat v_takenBits v_takenParity v_beats v_out v_runs v_received_n v_marks_n u) → va_S A s.heap H locs → some u = some u0 → v = u.1 → decode cX9_read pc = .ok (.ireturn, 1) → W p l e { frames := 2, cells := 0, slots := 0, locals := 40 } s m args below meth c H locs 0 0 (QI below D [(k_received, .int), (k_marks, .int)] (wX9_read k_received k_marks h_ h_received h_marks h_sending h_waveHigh h_waveBeats h_runHigh h_runBeats v_divisor v_clocks v_wanted v_rowsOn v_level v_form v_outputs v_byteKept v_ins v_sendingMany v_waveMany v_lineIn v_sends v_sentCharacter v_sentForm v_sentBeat v_senderHigh v_takes v_sawHigh v_takenForm v_takenBeat v_takenBits v_takenParity v_beats v_out v_runs v_received_n v_marks_n u0) (u0.1) args s A) (F0 m pc ls [.int v]) := fun u v H locs pc ls h1 h2 h3 h4 h5 h6 => rI (wf := wX9_read k_received k_marks h_ h_received h_marks h_sending h_waveHigh h_waveBeats h_runHigh h_runBeats v_divisor v_clocks v_wanted v_rowsOn v_level v_form v_outputs v_byteKept v_ins v_sendingMany v_waveMany v_lineIn v_sends v_sentCharacter v_sentForm v_sentBeat v_senderHigh v_takes v_sawHigh v_takenForm v_takenBeat v_takenBits v_takenParity v_beats v_out v_runs v_received_n v_marks_n) (rf := fun u => u.1) hx hb hr hlocks hK h1 h2 h3 h4 h5 h6
  have J112 : ∀ (l2 : Int32) (v_changed : Int32) (v_receivedMany : Int32) (v_overrun : Bool) (v_emptyUp : Bool) (v_lateUp : Bool) (v_lateCount : Int32) (v_thrown : Int32) (v_received_a : Nat → Int32) (v_marks_a : Nat → Int32) (H : Heap) (locs : List Loc) (ls : Array Slot), F_X9_read_112 v_divisor v_wanted v_rowsOn v_level v_form v_outputs v_byteKept v_ins v_sendingMany v_sends v_received_n v_marks_n l2 v_changed v_receivedMany v_overrun v_emptyUp v_lateUp v_lateCount v_thrown v_received_a v_marks_a = some u0 → lv_has ls 3 [(0, .ref h_), (2, .int l2)] → va_P D vwCl [oX9 h_ v_divisor v_clocks v_wanted v_rowsOn v_level v_form v_outputs v_byteKept v_ins v_changed h_received h_marks v_receivedMany v_overrun h_sending v_sendingMany v_emptyUp v_lateUp v_lateCount h_waveHigh h_waveBeats v_waveMany v_lineIn v_sends v_sentCharacter v_sentForm v_sentBeat v_senderHigh v_takes v_sawHigh v_takenForm v_takenBeat v_takenBits v_takenParity v_beats v_out h_runHigh h_runBeats v_runs v_thrown, aI h_received k_received v_received_n v_received_a, aI h_marks k_marks v_marks_n v_marks_a] H → va_D A [oX9 h_ v_divisor v_clocks v_wanted v_rowsOn v_level v_form v_outputs v_byteKept v_ins v_changed h_received h_marks v_receivedMany v_overrun h_sending v_sendingMany v_emptyUp v_lateUp v_lateCount h_waveHigh h_waveBeats v_waveMany v_lineIn v_sends v_sentCharacter v_sentForm v_sentBeat v_senderHigh v_takes v_sawHigh v_takenForm v_takenBeat v_takenBits v_takenParity v_beats v_out h_runHigh h_runBeats v_runs v_thrown, aI h_received k_received v_received_n v_received_a, aI h_marks k_marks v_marks_n v_marks_a] → va_S A s.heap H locs → W p l e { frames := 2, cells := 0, slots := 0, locals := 40 } s m args below meth c H locs 0 0 (QI below D [(k_received, .int), (k_marks, .int)] (wX9_read k_received k_marks h_ h_received h_marks h_sending h_waveHigh h_waveBeats h_runHigh h_runBeats v_divisor v_clocks v_wanted v_rowsOn v_level v_form v_outputs v_byteKept v_ins v_sendingMany v_waveMany v_lineIn v_sends v_sentCharacter v_sentForm v_sentBeat v_senderHigh v_takes v_sawHigh v_takenForm v_takenBeat v_takenBits v_takenParity v_beats v_out v_runs v_received_n v_marks_n u0) (u0.1) args s A) (F0 m 112 ls []) := by
    intro l2 v_changed v_receivedMany v_overrun v_emptyUp v_lateUp v_lateCount v_thrown v_received_a v_marks_a H locs ls hF hl hP hD hS
    unfold F_X9_read_112 at hF
    refine lv_iload_n hx hb dX9_read_112 rfl (lv_at hl 1 rfl) ?_
    refine lv_aload_n hx hb dX9_read_113 rfl (lv_at hl 0 rfl) ?_
    refine va_get (D := D) (ci := 8) (v := .int (bI v_rowsOn)) (C := RX9) (T := TX9) (N := 40) hx hb hts i_X9 hown hK hP 0 rfl rfl 3 (Nat.le_of_ble_eq_true rfl) f_48 (fun _ h9 => h9) rfl dX9_read_114 ?_
    refine lv_if_eq (tgt := 126) hx hb dX9_read_117 (by decide) (fun c1 => ?_) (fun c1 => ?_)
    · replace hF := bt_f (bI_0 c1) hF
      refine lv_iconst (v := 0) hx hb dX9_read_126 (by decide) ?_
      refine lv_ior hx hb dX9_read_127 ?_
      exact hret ((l2 ||| 0), v_changed, v_receivedMany, v_overrun, v_emptyUp, v_lateUp, v_lateCount, v_thrown, v_received_a, v_marks_a) (l2 ||| 0) _ _ 128 _ hP hD hS hF rfl dX9_read_128
    · replace hF := bt_t (bI_n0 c1) hF
      refine lv_sipush (v := 192) hx hb dX9_read_120 (by decide) ?_
      refine lv_goto (tgt := 127) hx hb dX9_read_123 (by decide) ?_
      refine lv_ior hx hb dX9_read_127 ?_
      exact hret ((l2 ||| 192), v_changed, v_receivedMany, v_overrun, v_emptyUp, v_lateUp, v_lateCount, v_thrown, v_received_a, v_marks_a) (l2 ||| 192) _ _ 128 _ hP hD hS hF rfl dX9_read_128
  unfold F_X9_read at hF
  refine lv_aload_n hx hb dX9_read_0 rfl (lv_at hl 0 rfl) ?_
  refine lv_iconst (v := 0) hx hb dX9_read_1 (by decide) ?_
  refine pf (ci := 8) (v := .int 0) (ty := .int) (C := RX9) (T := TX9) (N := 40) (ws' := [oX9 h_ v_divisor v_clocks v_wanted v_rowsOn v_level v_form v_outputs v_byteKept v_ins v_changed h_received h_marks v_receivedMany v_overrun h_sending v_sendingMany v_emptyUp v_lateUp v_lateCount h_waveHigh h_waveBeats v_waveMany v_lineIn v_sends v_sentCharacter v_sentForm v_sentBeat v_senderHigh v_takes v_sawHigh v_takenForm v_takenBeat v_takenBits v_takenParity v_beats v_out h_runHigh h_runBeats v_runs 0, aI h_received k_received v_received_n v_received_a, aI h_marks k_marks v_marks_n v_marks_a]) hx hb hts i_X9 tyX9_ok nmX9 hown hK hP hD hS 0 rfl rfl 39 (Nat.le_of_ble_eq_true rfl) f_35 rfl rfl (by decide +kernel) rfl rfl (Nat.le_of_ble_eq_true rfl) rfl dX9_read_2 (fun H locs hP hD hS => ?_)
  refine lv_iload_n hx hb dX9_read_5 rfl (lv_at hl 1 rfl) ?_
  by_cases c2 : p1 = 0
  · replace hF := it_t c2 hF
    refine lv_tableIn (tgt := 52) hx hb dX9_read_6 (by rw [c2]; decide) (by rw [c2]; decide) (by rw [c2]; rfl) (by decide) ?_
    refine lv_aload_n hx hb dX9_read_52 rfl (lv_at hl 0 rfl) ?_
    obtain ⟨u3, hu3, hF⟩ := bd_el hF
    refine cVI (q0 := 0) (ci := 8) (As := []) (rest := []) (wr := [aI h_received k_received v_received_n v_received_a, aI h_marks k_marks v_marks_n v_marks_a]) (ws' := [oX9 h_ v_divisor v_clocks v_wanted v_rowsOn v_level v_form v_outputs v_byteKept v_ins v_changed h_received h_marks v_receivedMany v_overrun h_sending v_sendingMany v_emptyUp v_lateUp v_lateCount h_waveHigh h_waveBeats v_waveMany v_lineIn v_sends v_sentCharacter v_sentForm v_sentBeat v_senderHigh v_takes v_sawHigh v_takenForm v_takenBeat v_takenBits v_takenParity v_beats v_out h_runHigh h_runBeats v_runs 0, aI h_received k_received v_received_n v_received_a, aI h_marks k_marks v_marks_n v_marks_a]) (rv := bI u3) ⟨hx, hb, hml, hown, hts⟩ (mX9_dlab D h_ h_received h_marks h_sending h_waveHigh h_waveBeats h_runHigh h_runBeats v_divisor v_clocks v_wanted v_rowsOn v_level v_form v_outputs v_byteKept v_ins v_changed v_receivedMany v_overrun v_sendingMany v_emptyUp v_lateUp v_lateCount v_waveMany v_lineIn v_sends v_sentCharacter v_sentForm v_sentBeat v_senderHigh v_takes v_sawHigh v_takenForm v_takenBeat v_takenBits v_takenParity v_beats v_out v_runs 0 u3 hu3) (cwV 0 hts gX9_read_X9_dlab rfl rfl rfl (by decide +kernel) ⟨Nat.le_of_ble_eq_true rfl, Nat.le_of_ble_eq_true rfl⟩) hK hP hD hS hA [] [0] [1, 2] [2, 0, 1] rfl rfl rfl rfl rfl rfl rfl rfl rfl hl.1 rfl (Nat.le_of_ble_eq_true rfl) rfl dX9_read_53 ⟨Nat.le_refl _, Nat.le_refl _⟩ (fun H locs hP hD hS => ?_)
    refine lv_if_eq (tgt := 70) hx hb dX9_read_56 (by decide) (fun c4 => ?_) (fun c4 => ?_)
    · replace hF := bt_f (bI_0 c4) hF
      refine lv_aload_n hx hb dX9_read_70 rfl (lv_at hl 0 rfl) ?_
      obtain ⟨u5, hu5, hF⟩ := bd_el hF
      refine cVI (q0 := 0) (ci := 8) (As := []) (rest := []) (wr := []) (ws' := [oX9 h_ v_divisor v_clocks v_wanted v_rowsOn v_level v_form v_outputs v_byteKept v_ins v_changed h_received h_marks u5.2.1 v_overrun h_sending v_sendingMany v_emptyUp u5.2.2.1 u5.2.2.2.1 h_waveHigh h_waveBeats v_waveMany v_lineIn v_sends v_sentCharacter v_sentForm v_sentBeat v_senderHigh v_takes v_sawHigh v_takenForm v_takenBeat v_takenBits v_takenParity v_beats v_out h_runHigh h_runBeats v_runs 0, aI h_received k_received v_received_n u5.2.2.2.2.1, aI h_marks k_marks v_marks_n u5.2.2.2.2.2]) (rv := u5.1) ⟨hx, hb, hml, hown, hts⟩ (mX9_take D k_received k_marks h_ h_received h_marks h_sending h_waveHigh h_waveBeats h_runHigh h_runBeats v_divisor v_clocks v_wanted v_rowsOn v_level v_form v_outputs v_byteKept v_ins v_changed v_receivedMany v_overrun v_sendingMany v_emptyUp v_lateUp v_lateCount v_waveMany v_lineIn v_sends v_sentCharacter v_sentForm v_sentBeat v_senderHigh v_takes v_sawHigh v_takenForm v_takenBeat v_takenBits v_takenParity v_beats v_out v_runs 0 v_received_n v_received_a v_marks_n v_marks_a u5 hu5) (cwV 0 hts gX9_read_X9_take rfl rfl rfl (by decide +kernel) ⟨Nat.le_of_ble_eq_true rfl, Nat.le_of_ble_eq_true rfl⟩) hK hP hD hS hA [0, 1] [0, 1, 2] [] [0, 1, 2] rfl rfl rfl rfl rfl rfl rfl rfl rfl hl.1 rfl (Nat.le_of_ble_eq_true rfl) rfl dX9_read_71 ⟨Nat.le_refl _, Nat.le_refl _⟩ (fun H locs hP hD hS => ?_)
      exact hret (u5.1, v_changed, u5.2.1, v_overrun, v_emptyUp, u5.2.2.1, u5.2.2.2.1, 0, u5.2.2.2.2.1, u5.2.2.2.2.2) u5.1 _ _ 74 _ hP hD hS hF rfl dX9_read_74
    · replace hF := bt_t (bI_n0 c4) hF
      refine lv_aload_n hx hb dX9_read_59 rfl (lv_at hl 0 rfl) ?_
      refine va_get (D := D) (ci := 8) (v := .int v_divisor) (C := RX9) (T := TX9) (N := 40) hx hb hts i_X9 hown hK hP 0 rfl rfl 0 (Nat.le_of_ble_eq_true rfl) f_39 (fun _ h9 => h9) rfl dX9_read_60 ?_
      refine lv_sipush (v := 255) hx hb dX9_read_63 (by decide) ?_
      refine lv_iand hx hb dX9_read_66 ?_
      refine lv_goto (tgt := 74) hx hb dX9_read_67 (by decide) ?_
      exact hret ((v_divisor &&& 255), v_changed, v_receivedMany, v_overrun, v_emptyUp, v_lateUp, v_lateCount, 0, v_received_a, v_marks_a) (v_divisor &&& 255) _ _ 74 _ hP hD hS hF rfl dX9_read_74
  · replace hF := it_f c2 hF
    by_cases c6 : p1 = 1
    · replace hF := it_t c6 hF
      refine lv_tableIn (tgt := 75) hx hb dX9_read_6 (by rw [c6]; decide) (by rw [c6]; decide) (by rw [c6]; rfl) (by decide) ?_
      refine lv_aload_n hx hb dX9_read_75 rfl (lv_at hl 0 rfl) ?_
      obtain ⟨u7, hu7, hF⟩ := bd_el hF
      refine cVI (q0 := 0) (ci := 8) (As := []) (rest := []) (wr := [aI h_received k_received v_received_n v_received_a, aI h_marks k_marks v_marks_n v_marks_a]) (ws' := [oX9 h_ v_divisor v_clocks v_wanted v_rowsOn v_level v_form v_outputs v_byteKept v_ins v_changed h_received h_marks v_receivedMany v_overrun h_sending v_sendingMany v_emptyUp v_lateUp v_lateCount h_waveHigh h_waveBeats v_waveMany v_lineIn v_sends v_sentCharacter v_sentForm v_sentBeat v_senderHigh v_takes v_sawHigh v_takenForm v_takenBeat v_takenBits v_takenParity v_beats v_out h_runHigh h_runBeats v_runs 0, aI h_received k_received v_received_n v_received_a, aI h_marks k_marks v_marks_n v_marks_a]) (rv := bI u7) ⟨hx, hb, hml, hown, hts⟩ (mX9_dlab D h_ h_received h_marks h_sending h_waveHigh h_waveBeats h_runHigh h_runBeats v_divisor v_clocks v_wanted v_rowsOn v_level v_form v_outputs v_byteKept v_ins v_changed v_receivedMany v_overrun v_sendingMany v_emptyUp v_lateUp v_lateCount v_waveMany v_lineIn v_sends v_sentCharacter v_sentForm v_sentBeat v_senderHigh v_takes v_sawHigh v_takenForm v_takenBeat v_takenBits v_takenParity v_beats v_out v_runs 0 u7 hu7) (cwV 0 hts gX9_read_X9_dlab rfl rfl rfl (by decide +kernel) ⟨Nat.le_of_ble_eq_true rfl, Nat.le_of_ble_eq_true rfl⟩) hK hP hD hS hA [] [0] [1, 2] [2, 0, 1] rfl rfl rfl rfl rfl rfl rfl rfl rfl hl.1 rfl (Nat.le_of_ble_eq_true rfl) rfl dX9_read_76 ⟨Nat.le_refl _, Nat.le_refl _⟩ (fun H locs hP hD hS => ?_)
      refine lv_if_eq (tgt := 92) hx hb dX9_read_79 (by decide) (fun c8 => ?_) (fun c8 => ?_)
      · replace hF := bt_f (bI_0 c8) hF
        refine lv_aload_n hx hb dX9_read_92 rfl (lv_at hl 0 rfl) ?_
        refine va_get (D := D) (ci := 8) (v := .int v_wanted) (C := RX9) (T := TX9) (N := 40) hx hb hts i_X9 hown hK hP 0 rfl rfl 2 (Nat.le_of_ble_eq_true rfl) f_45 (fun _ h9 => h9) rfl dX9_read_93 ?_
        exact hret (v_wanted, v_changed, v_receivedMany, v_overrun, v_emptyUp, v_lateUp, v_lateCount, 0, v_received_a, v_marks_a) v_wanted _ _ 96 _ hP hD hS hF rfl dX9_read_96
      · replace hF := bt_t (bI_n0 c8) hF
        refine lv_aload_n hx hb dX9_read_82 rfl (lv_at hl 0 rfl) ?_
        refine va_get (D := D) (ci := 8) (v := .int v_divisor) (C := RX9) (T := TX9) (N := 40) hx hb hts i_X9 hown hK hP 0 rfl rfl 0 (Nat.le_of_ble_eq_true rfl) f_39 (fun _ h9 => h9) rfl dX9_read_83 ?_
        refine lv_bipush (v := 8) hx hb dX9_read_86 (by decide) ?_
        refine lv_ishr hx hb dX9_read_88 ?_
        refine lv_goto (tgt := 96) hx hb dX9_read_89 (by decide) ?_
        exact hret ((v_divisor >>> ((8 : Int32) &&& 31)), v_changed, v_receivedMany, v_overrun, v_emptyUp, v_lateUp, v_lateCount, 0, v_received_a, v_marks_a) (v_divisor >>> ((8 : Int32) &&& 31)) _ _ 96 _ hP hD hS hF rfl dX9_read_96
    · replace hF := it_f c6 hF
      by_cases c9 : p1 = 2
      · replace hF := it_t c9 hF
        refine lv_tableIn (tgt := 97) hx hb dX9_read_6 (by rw [c9]; decide) (by rw [c9]; decide) (by rw [c9]; rfl) (by decide) ?_
        refine lv_aload_n hx hb dX9_read_97 rfl (lv_at hl 0 rfl) ?_
        obtain ⟨u10, hu10, hF⟩ := bd_el hF
        refine cVI (q0 := 0) (ci := 8) (As := []) (rest := []) (wr := [aI h_received k_received v_received_n v_received_a]) (ws' := [oX9 h_ v_divisor v_clocks v_wanted v_rowsOn v_level v_form v_outputs v_byteKept v_ins v_changed h_received h_marks v_receivedMany v_overrun h_sending v_sendingMany v_emptyUp v_lateUp v_lateCount h_waveHigh h_waveBeats v_waveMany v_lineIn v_sends v_sentCharacter v_sentForm v_sentBeat v_senderHigh v_takes v_sawHigh v_takenForm v_takenBeat v_takenBits v_takenParity v_beats v_out h_runHigh h_runBeats v_runs 0, aI h_received k_received v_received_n v_received_a, aI h_marks k_marks v_marks_n v_marks_a]) (rv := u10) ⟨hx, hb, hml, hown, hts⟩ (mX9_reason D k_marks h_ h_received h_marks h_sending h_waveHigh h_waveBeats h_runHigh h_runBeats v_divisor v_clocks v_wanted v_rowsOn v_level v_form v_outputs v_byteKept v_ins v_changed v_receivedMany v_overrun v_sendingMany v_emptyUp v_lateUp v_lateCount v_waveMany v_lineIn v_sends v_sentCharacter v_sentForm v_sentBeat v_senderHigh v_takes v_sawHigh v_takenForm v_takenBeat v_takenBits v_takenParity v_beats v_out v_runs 0 v_marks_n v_marks_a u10 hu10) (cwV 0 hts gX9_read_X9_reason rfl rfl rfl (by decide +kernel) ⟨Nat.le_of_ble_eq_true rfl, Nat.le_of_ble_eq_true rfl⟩) hK hP hD hS hA [1] [0, 2] [1] [1, 0, 2] rfl rfl rfl rfl rfl rfl rfl rfl rfl hl.1 rfl (Nat.le_of_ble_eq_true rfl) rfl dX9_read_98 ⟨Nat.le_refl _, Nat.le_refl _⟩ (fun H locs hP hD hS => ?_)
        refine lv_istore_n (lv' := [(2, .int u10), (0, .ref h_), (1, .int p1)]) hx hb dX9_read_101 rfl hl (Nat.le_of_ble_eq_true rfl) rfl (fun ls hl => ?_)
        refine lv_iload_n hx hb dX9_read_102 rfl (lv_at hl 0 rfl) ?_
        refine lv_iconst (v := 2) hx hb dX9_read_103 (by decide) ?_
        refine lv_icmp_ne (tgt := 112) hx hb dX9_read_104 (by decide) (fun c11 => ?_) (fun c11 => ?_)
        · replace hF := it_f c11 hF
          exact J112 u10 v_changed v_receivedMany v_overrun v_emptyUp v_lateUp v_lateCount 0 v_received_a v_marks_a _ _ _ hF (lv_sub hl [1, 0] rfl) hP hD hS
        · replace hF := it_t c11 hF
          refine lv_aload_n hx hb dX9_read_107 rfl (lv_at hl 1 rfl) ?_
          refine lv_iconst (v := 0) hx hb dX9_read_108 (by decide) ?_
          refine pf (ci := 8) (v := .int (bI false)) (ty := .boolean) (C := RX9) (T := TX9) (N := 40) (ws' := [oX9 h_ v_divisor v_clocks v_wanted v_rowsOn v_level v_form v_outputs v_byteKept v_ins v_changed h_received h_marks v_receivedMany v_overrun h_sending v_sendingMany false v_lateUp v_lateCount h_waveHigh h_waveBeats v_waveMany v_lineIn v_sends v_sentCharacter v_sentForm v_sentBeat v_senderHigh v_takes v_sawHigh v_takenForm v_takenBeat v_takenBits v_takenParity v_beats v_out h_runHigh h_runBeats v_runs 0, aI h_received k_received v_received_n v_received_a, aI h_marks k_marks v_marks_n v_marks_a]) hx hb hts i_X9 tyX9_ok nmX9 hown hK hP hD hS 0 rfl rfl 16 (Nat.le_of_ble_eq_true rfl) f_79 rfl rfl (by decide +kernel) (nar_bI false) (fit_bI false) (Nat.le_of_ble_eq_true rfl) rfl dX9_read_109 (fun H locs hP hD hS => ?_)
          exact J112 u10 v_changed v_receivedMany v_overrun false v_lateUp v_lateCount 0 v_received_a v_marks_a _ _ _ hF (lv_sub hl [1, 0] rfl) hP hD hS
      · replace hF := it_f c9 hF
        by_cases c12 : p1 = 3
        · replace hF := it_t c12 hF
          refine lv_tableIn (tgt := 129) hx hb dX9_read_6 (by rw [c12]; decide) (by rw [c12]; decide) (by rw [c12]; rfl) (by decide) ?_
          refine lv_aload_n hx hb dX9_read_129 rfl (lv_at hl 0 rfl) ?_
          refine va_get (D := D) (ci := 8) (v := .int v_form) (C := RX9) (T := TX9) (N := 40) hx hb hts i_X9 hown hK hP 0 rfl rfl 5 (Nat.le_of_ble_eq_true rfl) f_55 (fun _ h9 => h9) rfl dX9_read_130 ?_
          exact hret (v_form, v_changed, v_receivedMany, v_overrun, v_emptyUp, v_lateUp, v_lateCount, 0, v_received_a, v_marks_a) v_form _ _ 133 _ hP hD hS hF rfl dX9_read_133
        · replace hF := it_f c12 hF
          by_cases c13 : p1 = 4
          · replace hF := it_t c13 hF
            refine lv_tableIn (tgt := 134) hx hb dX9_read_6 (by rw [c13]; decide) (by rw [c13]; decide) (by rw [c13]; rfl) (by decide) ?_
            refine lv_aload_n hx hb dX9_read_134 rfl (lv_at hl 0 rfl) ?_
            refine va_get (D := D) (ci := 8) (v := .int v_outputs) (C := RX9) (T := TX9) (N := 40) hx hb hts i_X9 hown hK hP 0 rfl rfl 6 (Nat.le_of_ble_eq_true rfl) f_58 (fun _ h9 => h9) rfl dX9_read_135 ?_
            exact hret (v_outputs, v_changed, v_receivedMany, v_overrun, v_emptyUp, v_lateUp, v_lateCount, 0, v_received_a, v_marks_a) v_outputs _ _ 138 _ hP hD hS hF rfl dX9_read_138
          · replace hF := it_f c13 hF
            by_cases c14 : p1 = 5
            · replace hF := it_t c14 hF
              refine lv_tableIn (tgt := 139) hx hb dX9_read_6 (by rw [c14]; decide) (by rw [c14]; decide) (by rw [c14]; rfl) (by decide) ?_
              refine lv_aload_n hx hb dX9_read_139 rfl (lv_at hl 0 rfl) ?_
              obtain ⟨u15, hu15, hF⟩ := bd_el hF
              refine cVI (q0 := 0) (ci := 8) (As := []) (rest := []) (wr := [aI h_received k_received v_received_n v_received_a]) (ws' := [oX9 h_ v_divisor v_clocks v_wanted v_rowsOn v_level v_form v_outputs v_byteKept v_ins v_changed h_received h_marks v_receivedMany u15.2.1 h_sending v_sendingMany v_emptyUp v_lateUp v_lateCount h_waveHigh h_waveBeats v_waveMany v_lineIn v_sends v_sentCharacter v_sentForm v_sentBeat v_senderHigh v_takes v_sawHigh v_takenForm v_takenBeat v_takenBits v_takenParity v_beats v_out h_runHigh h_runBeats v_runs 0, aI h_received k_received v_received_n v_received_a, aI h_marks k_marks v_marks_n u15.2.2]) (rv := u15.1) ⟨hx, hb, hml, hown, hts⟩ (mX9_line D k_marks h_ h_received h_marks h_sending h_waveHigh h_waveBeats h_runHigh h_runBeats v_divisor v_clocks v_wanted v_rowsOn v_level v_form v_outputs v_byteKept v_ins v_changed v_receivedMany v_overrun v_sendingMany v_emptyUp v_lateUp v_lateCount v_waveMany v_lineIn v_sends v_sentCharacter v_sentForm v_sentBeat v_senderHigh v_takes v_sawHigh v_takenForm v_takenBeat v_takenBits v_takenParity v_beats v_out v_runs 0 v_marks_n v_marks_a u15 hu15) (cwV 0 hts gX9_read_X9_line rfl rfl rfl (by decide +kernel) ⟨Nat.le_of_ble_eq_true rfl, Nat.le_of_ble_eq_true rfl⟩) hK hP hD hS hA [1] [0, 2] [1] [1, 0, 2] rfl rfl rfl rfl rfl rfl rfl rfl rfl hl.1 rfl (Nat.le_of_ble_eq_true rfl) rfl dX9_read_140 ⟨Nat.le_refl _, Nat.le_refl _⟩ (fun H locs hP hD hS => ?_)
              exact hret (u15.1, v_changed, v_receivedMany, u15.2.1, v_emptyUp, v_lateUp, v_lateCount, 0, v_received_a, u15.2.2) u15.1 _ _ 143 _ hP hD hS hF rfl dX9_read_143
            · replace hF := it_f c14 hF
              by_cases c16 : p1 = 6
              · replace hF := it_t c16 hF
                refine lv_tableIn (tgt := 144) hx hb dX9_read_6 (by rw [c16]; decide) (by rw [c16]; decide) (by rw [c16]; rfl) (by decide) ?_
                refine lv_aload_n hx hb dX9_read_144 rfl (lv_at hl 0 rfl) ?_
                refine va_get (D := D) (ci := 8) (v := .int v_changed) (C := RX9) (T := TX9) (N := 40) hx hb hts i_X9 hown hK hP 0 rfl rfl 9 (Nat.le_of_ble_eq_true rfl) f_67 (fun _ h9 => h9) rfl dX9_read_145 ?_
                refine lv_aload_n hx hb dX9_read_148 rfl (lv_at hl 0 rfl) ?_
                obtain ⟨u17, hu17, hF⟩ := bd_el hF
                refine cVI (q0 := 0) (ci := 8) (As := []) (rest := [.int v_changed]) (wr := [aI h_received k_received v_received_n v_received_a, aI h_marks k_marks v_marks_n v_marks_a]) (ws' := [oX9 h_ v_divisor v_clocks v_wanted v_rowsOn v_level v_form v_outputs v_byteKept v_ins v_changed h_received h_marks v_receivedMany v_overrun h_sending v_sendingMany v_emptyUp v_lateUp v_lateCount h_waveHigh h_waveBeats v_waveMany v_lineIn v_sends v_sentCharacter v_sentForm v_sentBeat v_senderHigh v_takes v_sawHigh v_takenForm v_takenBeat v_takenBits v_takenParity v_beats v_out h_runHigh h_runBeats v_runs 0, aI h_received k_received v_received_n v_received_a, aI h_marks k_marks v_marks_n v_marks_a]) (rv := u17) ⟨hx, hb, hml, hown, hts⟩ (mX9_lines D h_ h_received h_marks h_sending h_waveHigh h_waveBeats h_runHigh h_runBeats v_divisor v_clocks v_wanted v_rowsOn v_level v_form v_outputs v_byteKept v_ins v_changed v_receivedMany v_overrun v_sendingMany v_emptyUp v_lateUp v_lateCount v_waveMany v_lineIn v_sends v_sentCharacter v_sentForm v_sentBeat v_senderHigh v_takes v_sawHigh v_takenForm v_takenBeat v_takenBits v_takenParity v_beats v_out v_runs 0 u17 hu17) (cwV 0 hts gX9_read_X9_lines rfl rfl rfl (by decide +kernel) ⟨Nat.le_of_ble_eq_true rfl, Nat.le_of_ble_eq_true rfl⟩) hK hP hD hS hA [] [0] [1, 2] [2, 0, 1] rfl rfl rfl rfl rfl rfl rfl rfl rfl hl.1 rfl (Nat.le_of_ble_eq_true rfl) rfl dX9_read_149 ⟨Nat.le_refl _, Nat.le_refl _⟩ (fun H locs hP hD hS => ?_)
                refine lv_iconst (v := 4) hx hb dX9_read_152 (by decide) ?_
                refine lv_ishl hx hb dX9_read_153 ?_
                refine lv_ior hx hb dX9_read_154 ?_
                refine lv_topi (fun x18 ex18 => ?_)
                replace hF := lt1_x ex18 hF
                refine lv_istore_n (lv' := [(2, .int x18), (0, .ref h_), (1, .int p1)]) hx hb dX9_read_155 rfl hl (Nat.le_of_ble_eq_true rfl) rfl (fun ls hl => ?_)
                refine lv_aload_n hx hb dX9_read_156 rfl (lv_at hl 1 rfl) ?_
                refine lv_iconst (v := 0) hx hb dX9_read_157 (by decide) ?_
                refine pf (ci := 8) (v := .int 0) (ty := .int) (C := RX9) (T := TX9) (N := 40) (ws' := [oX9 h_ v_divisor v_clocks v_wanted v_rowsOn v_level v_form v_outputs v_byteKept v_ins 0 h_received h_marks v_receivedMany v_overrun h_sending v_sendingMany v_emptyUp v_lateUp v_lateCount h_waveHigh h_waveBeats v_waveMany v_lineIn v_sends v_sentCharacter v_sentForm v_sentBeat v_senderHigh v_takes v_sawHigh v_takenForm v_takenBeat v_takenBits v_takenParity v_beats v_out h_runHigh h_runBeats v_runs 0, aI h_received k_received v_received_n v_received_a, aI h_marks k_marks v_marks_n v_marks_a]) hx hb hts i_X9 tyX9_ok nmX9 hown hK hP hD hS 0 rfl rfl 9 (Nat.le_of_ble_eq_true rfl) f_67 rfl rfl (by decide +kernel) rfl rfl (Nat.le_of_ble_eq_true rfl) rfl dX9_read_158 (fun H locs hP hD hS => ?_)
                refine lv_iload_n hx hb dX9_read_161 rfl (lv_at hl 0 rfl) ?_
                exact hret (x18, 0, v_receivedMany, v_overrun, v_emptyUp, v_lateUp, v_lateCount, 0, v_received_a, v_marks_a) x18 _ _ 162 _ hP hD hS hF rfl dX9_read_162
              · replace hF := it_f c16 hF
                by_cases c19 : p1 = 7
                · replace hF := it_t c19 hF
                  refine lv_tableIn (tgt := 163) hx hb dX9_read_6 (by rw [c19]; decide) (by rw [c19]; decide) (by rw [c19]; rfl) (by decide) ?_
                  refine lv_aload_n hx hb dX9_read_163 rfl (lv_at hl 0 rfl) ?_
                  refine va_get (D := D) (ci := 8) (v := .int v_byteKept) (C := RX9) (T := TX9) (N := 40) hx hb hts i_X9 hown hK hP 0 rfl rfl 7 (Nat.le_of_ble_eq_true rfl) f_61 (fun _ h9 => h9) rfl dX9_read_164 ?_
                  exact hret (v_byteKept, v_changed, v_receivedMany, v_overrun, v_emptyUp, v_lateUp, v_lateCount, 0, v_received_a, v_marks_a) v_byteKept _ _ 167 _ hP hD hS hF rfl dX9_read_167
                · replace hF := it_f c19 hF
                  refine lv_tableOut (tgt := 168) hx hb dX9_read_6 (tb_out8 c2 c6 c9 c12 c13 c14 c16 c19) (by decide) ?_
                  refine lv_aload_n hx hb dX9_read_168 rfl (lv_at hl 0 rfl) ?_
                  refine lv_iconst (v := 1) hx hb dX9_read_169 (by decide) ?_
                  refine pf (ci := 8) (v := .int 1) (ty := .int) (C := RX9) (T := TX9) (N := 40) (ws' := [oX9 h_ v_divisor v_clocks v_wanted v_rowsOn v_level v_form v_outputs v_byteKept v_ins v_changed h_received h_marks v_receivedMany v_overrun h_sending v_sendingMany v_emptyUp v_lateUp v_lateCount h_waveHigh h_waveBeats v_waveMany v_lineIn v_sends v_sentCharacter v_sentForm v_sentBeat v_senderHigh v_takes v_sawHigh v_takenForm v_takenBeat v_takenBits v_takenParity v_beats v_out h_runHigh h_runBeats v_runs 1, aI h_received k_received v_received_n v_received_a, aI h_marks k_marks v_marks_n v_marks_a]) hx hb hts i_X9 tyX9_ok nmX9 hown hK hP hD hS 0 rfl rfl 39 (Nat.le_of_ble_eq_true rfl) f_35 rfl rfl (by decide +kernel) rfl rfl (Nat.le_of_ble_eq_true rfl) rfl dX9_read_170 (fun H locs hP hD hS => ?_)
                  refine lv_iconst (v := 0) hx hb dX9_read_173 (by decide) ?_
                  exact hret (0, v_changed, v_receivedMany, v_overrun, v_emptyUp, v_lateUp, v_lateCount, 1, v_received_a, v_marks_a) 0 _ _ 174 _ hP hD hS hF rfl dX9_read_174
