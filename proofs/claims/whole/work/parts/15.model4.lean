theorem dX9_send_0 : decode cX9_send 0 = .ok (.aload_n 0, 1) := by decide +kernel
theorem dX9_send_1 : decode cX9_send 1 = .ok (.getfield 94, 3) := by decide +kernel
theorem dX9_send_4 : decode cX9_send 4 = .ok (.ifCond .ne 90, 3) := by decide +kernel
theorem dX9_send_7 : decode cX9_send 7 = .ok (.aload_n 0, 1) := by decide +kernel
theorem dX9_send_8 : decode cX9_send 8 = .ok (.getfield 76, 3) := by decide +kernel
theorem dX9_send_11 : decode cX9_send 11 = .ok (.ifCond .le 83, 3) := by decide +kernel
theorem dX9_send_14 : decode cX9_send 14 = .ok (.aload_n 0, 1) := by decide +kernel
theorem dX9_send_15 : decode cX9_send 15 = .ok (.aload_n 0, 1) := by decide +kernel
theorem dX9_send_16 : decode cX9_send 16 = .ok (.getfield 16, 3) := by decide +kernel
theorem dX9_send_19 : decode cX9_send 19 = .ok (.iconst 0, 1) := by decide +kernel
theorem dX9_send_20 : decode cX9_send 20 = .ok (.iaload, 1) := by decide +kernel
theorem dX9_send_21 : decode cX9_send 21 = .ok (.putfield 169, 3) := by decide +kernel
theorem dX9_send_24 : decode cX9_send 24 = .ok (.aload_n 0, 1) := by decide +kernel
theorem dX9_send_25 : decode cX9_send 25 = .ok (.dup, 1) := by decide +kernel
theorem dX9_send_26 : decode cX9_send 26 = .ok (.getfield 76, 3) := by decide +kernel
theorem dX9_send_29 : decode cX9_send 29 = .ok (.iconst 1, 1) := by decide +kernel
theorem dX9_send_30 : decode cX9_send 30 = .ok (.isub, 1) := by decide +kernel
theorem dX9_send_31 : decode cX9_send 31 = .ok (.putfield 76, 3) := by decide +kernel
theorem dX9_send_34 : decode cX9_send 34 = .ok (.iconst 0, 1) := by decide +kernel
theorem dX9_send_35 : decode cX9_send 35 = .ok (.istore_n 1, 1) := by decide +kernel
theorem dX9_send_36 : decode cX9_send 36 = .ok (.iload_n 1, 1) := by decide +kernel
theorem dX9_send_37 : decode cX9_send 37 = .ok (.aload_n 0, 1) := by decide +kernel
theorem dX9_send_38 : decode cX9_send 38 = .ok (.getfield 76, 3) := by decide +kernel
theorem dX9_send_41 : decode cX9_send 41 = .ok (.if_icmp .ge 23, 3) := by decide +kernel
theorem dX9_send_44 : decode cX9_send 44 = .ok (.aload_n 0, 1) := by decide +kernel
theorem dX9_send_45 : decode cX9_send 45 = .ok (.getfield 16, 3) := by decide +kernel
theorem dX9_send_48 : decode cX9_send 48 = .ok (.iload_n 1, 1) := by decide +kernel
theorem dX9_send_49 : decode cX9_send 49 = .ok (.aload_n 0, 1) := by decide +kernel
theorem dX9_send_50 : decode cX9_send 50 = .ok (.getfield 16, 3) := by decide +kernel
theorem dX9_send_53 : decode cX9_send 53 = .ok (.iload_n 1, 1) := by decide +kernel
theorem dX9_send_54 : decode cX9_send 54 = .ok (.iconst 1, 1) := by decide +kernel
theorem dX9_send_55 : decode cX9_send 55 = .ok (.iadd, 1) := by decide +kernel
theorem dX9_send_56 : decode cX9_send 56 = .ok (.iaload, 1) := by decide +kernel
theorem dX9_send_57 : decode cX9_send 57 = .ok (.iastore, 1) := by decide +kernel
theorem dX9_send_58 : decode cX9_send 58 = .ok (.iinc 1 1, 3) := by decide +kernel
theorem dX9_send_61 : decode cX9_send 61 = .ok (.goto (-25), 3) := by decide +kernel
theorem dX9_send_64 : decode cX9_send 64 = .ok (.aload_n 0, 1) := by decide +kernel
theorem dX9_send_65 : decode cX9_send 65 = .ok (.getfield 76, 3) := by decide +kernel
theorem dX9_send_68 : decode cX9_send 68 = .ok (.ifCond .ne 8, 3) := by decide +kernel
theorem dX9_send_71 : decode cX9_send 71 = .ok (.aload_n 0, 1) := by decide +kernel
theorem dX9_send_72 : decode cX9_send 72 = .ok (.iconst 1, 1) := by decide +kernel
theorem dX9_send_73 : decode cX9_send 73 = .ok (.putfield 79, 3) := by decide +kernel
theorem dX9_send_76 : decode cX9_send 76 = .ok (.aload_n 0, 1) := by decide +kernel
theorem dX9_send_77 : decode cX9_send 77 = .ok (.iconst 1, 1) := by decide +kernel
theorem dX9_send_78 : decode cX9_send 78 = .ok (.putfield 94, 3) := by decide +kernel
theorem dX9_send_81 : decode cX9_send 81 = .ok (.aload_n 0, 1) := by decide +kernel
theorem dX9_send_82 : decode cX9_send 82 = .ok (.aload_n 0, 1) := by decide +kernel
theorem dX9_send_83 : decode cX9_send 83 = .ok (.getfield 55, 3) := by decide +kernel
theorem dX9_send_86 : decode cX9_send 86 = .ok (.putfield 172, 3) := by decide +kernel
theorem dX9_send_89 : decode cX9_send 89 = .ok (.aload_n 0, 1) := by decide +kernel
theorem dX9_send_90 : decode cX9_send 90 = .ok (.iconst 0, 1) := by decide +kernel
theorem dX9_send_91 : decode cX9_send 91 = .ok (.putfield 175, 3) := by decide +kernel
theorem dX9_send_94 : decode cX9_send 94 = .ok (.aload_n 0, 1) := by decide +kernel
theorem dX9_send_95 : decode cX9_send 95 = .ok (.iconst 1, 1) := by decide +kernel
theorem dX9_send_96 : decode cX9_send 96 = .ok (.putfield 97, 3) := by decide +kernel
theorem dX9_send_99 : decode cX9_send 99 = .ok (.aload_n 0, 1) := by decide +kernel
theorem dX9_send_100 : decode cX9_send 100 = .ok (.getfield 94, 3) := by decide +kernel
theorem dX9_send_103 : decode cX9_send 103 = .ok (.ifCond .ne 4, 3) := by decide +kernel
theorem dX9_send_106 : decode cX9_send 106 = .ok (.return_, 1) := by decide +kernel
theorem dX9_send_107 : decode cX9_send 107 = .ok (.aload_n 0, 1) := by decide +kernel
theorem dX9_send_108 : decode cX9_send 108 = .ok (.aload_n 0, 1) := by decide +kernel
theorem dX9_send_109 : decode cX9_send 109 = .ok (.getfield 172, 3) := by decide +kernel
theorem dX9_send_112 : decode cX9_send 112 = .ok (.aload_n 0, 1) := by decide +kernel
theorem dX9_send_113 : decode cX9_send 113 = .ok (.getfield 169, 3) := by decide +kernel
theorem dX9_send_116 : decode cX9_send 116 = .ok (.aload_n 0, 1) := by decide +kernel
theorem dX9_send_117 : decode cX9_send 117 = .ok (.getfield 175, 3) := by decide +kernel
theorem dX9_send_120 : decode cX9_send 120 = .ok (.bipush 16, 2) := by decide +kernel
theorem dX9_send_122 : decode cX9_send 122 = .ok (.idiv, 1) := by decide +kernel
theorem dX9_send_123 : decode cX9_send 123 = .ok (.invokestatic 178, 3) := by decide +kernel
theorem dX9_send_126 : decode cX9_send 126 = .ok (.putfield 97, 3) := by decide +kernel
theorem dX9_send_129 : decode cX9_send 129 = .ok (.aload_n 0, 1) := by decide +kernel
theorem dX9_send_130 : decode cX9_send 130 = .ok (.dup, 1) := by decide +kernel
theorem dX9_send_131 : decode cX9_send 131 = .ok (.getfield 175, 3) := by decide +kernel
theorem dX9_send_134 : decode cX9_send 134 = .ok (.iconst 1, 1) := by decide +kernel
theorem dX9_send_135 : decode cX9_send 135 = .ok (.iadd, 1) := by decide +kernel
theorem dX9_send_136 : decode cX9_send 136 = .ok (.putfield 175, 3) := by decide +kernel
theorem dX9_send_139 : decode cX9_send 139 = .ok (.aload_n 0, 1) := by decide +kernel
theorem dX9_send_140 : decode cX9_send 140 = .ok (.getfield 175, 3) := by decide +kernel
theorem dX9_send_143 : decode cX9_send 143 = .ok (.aload_n 0, 1) := by decide +kernel
theorem dX9_send_144 : decode cX9_send 144 = .ok (.getfield 172, 3) := by decide +kernel
theorem dX9_send_147 : decode cX9_send 147 = .ok (.invokestatic 182, 3) := by decide +kernel
theorem dX9_send_150 : decode cX9_send 150 = .ok (.if_icmp .ne 8, 3) := by decide +kernel
theorem dX9_send_153 : decode cX9_send 153 = .ok (.aload_n 0, 1) := by decide +kernel
theorem dX9_send_154 : decode cX9_send 154 = .ok (.iconst 0, 1) := by decide +kernel
theorem dX9_send_155 : decode cX9_send 155 = .ok (.putfield 94, 3) := by decide +kernel
theorem dX9_send_158 : decode cX9_send 158 = .ok (.return_, 1) := by decide +kernel
set_option maxRecDepth 20000 in
theorem ggX9_send_X9_partOf : GoodIn wsX9_send wsX9_partOf := goodIn_r _ [13, 14, 15, 12, 16, 17, 18, 19, 20, 21, 22, 23, 24, 25, 26, 27, 28, 29] (by decide +kernel) (by decide +kernel)
set_option maxRecDepth 20000 in
theorem gX9_send_X9_partOf : GoodIn wsX9_send (va_wsS RX9 178 yX9_partOf wsX9_partOf) := goodIn_app (goodIn_of _ (by decide +kernel)) ggX9_send_X9_partOf
set_option maxRecDepth 20000 in
theorem ggX9_send_X9_frameOf : GoodIn wsX9_send wsX9_frameOf := goodIn_r _ [32, 14, 15, 12, 16, 17, 18, 19, 33, 34, 35] (by decide +kernel) (by decide +kernel)
set_option maxRecDepth 20000 in
theorem gX9_send_X9_frameOf : GoodIn wsX9_send (va_wsS RX9 182 yX9_frameOf wsX9_frameOf) := goodIn_app (goodIn_of _ (by decide +kernel)) ggX9_send_X9_frameOf
theorem dX9_say_0 : decode cX9_say 0 = .ok (.aload_n 0, 1) := by decide +kernel
theorem dX9_say_1 : decode cX9_say 1 = .ok (.iload_n 1, 1) := by decide +kernel
theorem dX9_say_2 : decode cX9_say 2 = .ok (.putfield 109, 3) := by decide +kernel
theorem dX9_say_5 : decode cX9_say 5 = .ok (.aload_n 0, 1) := by decide +kernel
theorem dX9_say_6 : decode cX9_say 6 = .ok (.getfield 112, 3) := by decide +kernel
theorem dX9_say_9 : decode cX9_say 9 = .ok (.ifCond .le 40, 3) := by decide +kernel
theorem dX9_say_12 : decode cX9_say 12 = .ok (.aload_n 0, 1) := by decide +kernel
theorem dX9_say_13 : decode cX9_say 13 = .ok (.getfield 26, 3) := by decide +kernel
theorem dX9_say_16 : decode cX9_say 16 = .ok (.aload_n 0, 1) := by decide +kernel
theorem dX9_say_17 : decode cX9_say 17 = .ok (.getfield 112, 3) := by decide +kernel
theorem dX9_say_20 : decode cX9_say 20 = .ok (.iconst 1, 1) := by decide +kernel
theorem dX9_say_21 : decode cX9_say 21 = .ok (.isub, 1) := by decide +kernel
theorem dX9_say_22 : decode cX9_say 22 = .ok (.bipush 40, 2) := by decide +kernel
theorem dX9_say_24 : decode cX9_say 24 = .ok (.irem, 1) := by decide +kernel
theorem dX9_say_25 : decode cX9_say 25 = .ok (.baload, 1) := by decide +kernel
theorem dX9_say_26 : decode cX9_say 26 = .ok (.iload_n 1, 1) := by decide +kernel
theorem dX9_say_27 : decode cX9_say 27 = .ok (.if_icmp .ne 22, 3) := by decide +kernel
theorem dX9_say_30 : decode cX9_say 30 = .ok (.aload_n 0, 1) := by decide +kernel
theorem dX9_say_31 : decode cX9_say 31 = .ok (.getfield 29, 3) := by decide +kernel
theorem dX9_say_34 : decode cX9_say 34 = .ok (.aload_n 0, 1) := by decide +kernel
theorem dX9_say_35 : decode cX9_say 35 = .ok (.getfield 112, 3) := by decide +kernel
theorem dX9_say_38 : decode cX9_say 38 = .ok (.iconst 1, 1) := by decide +kernel
theorem dX9_say_39 : decode cX9_say 39 = .ok (.isub, 1) := by decide +kernel
theorem dX9_say_40 : decode cX9_say 40 = .ok (.bipush 40, 2) := by decide +kernel
theorem dX9_say_42 : decode cX9_say 42 = .ok (.irem, 1) := by decide +kernel
theorem dX9_say_43 : decode cX9_say 43 = .ok (.dup2, 1) := by decide +kernel
theorem dX9_say_44 : decode cX9_say 44 = .ok (.iaload, 1) := by decide +kernel
theorem dX9_say_45 : decode cX9_say 45 = .ok (.iconst 1, 1) := by decide +kernel
theorem dX9_say_46 : decode cX9_say 46 = .ok (.iadd, 1) := by decide +kernel
theorem dX9_say_47 : decode cX9_say 47 = .ok (.iastore, 1) := by decide +kernel
theorem dX9_say_48 : decode cX9_say 48 = .ok (.return_, 1) := by decide +kernel
theorem dX9_say_49 : decode cX9_say 49 = .ok (.aload_n 0, 1) := by decide +kernel
theorem dX9_say_50 : decode cX9_say 50 = .ok (.getfield 26, 3) := by decide +kernel
theorem dX9_say_53 : decode cX9_say 53 = .ok (.aload_n 0, 1) := by decide +kernel
theorem dX9_say_54 : decode cX9_say 54 = .ok (.getfield 112, 3) := by decide +kernel
theorem dX9_say_57 : decode cX9_say 57 = .ok (.bipush 40, 2) := by decide +kernel
theorem dX9_say_59 : decode cX9_say 59 = .ok (.irem, 1) := by decide +kernel
theorem dX9_say_60 : decode cX9_say 60 = .ok (.iload_n 1, 1) := by decide +kernel
theorem dX9_say_61 : decode cX9_say 61 = .ok (.bastore, 1) := by decide +kernel
theorem dX9_say_62 : decode cX9_say 62 = .ok (.aload_n 0, 1) := by decide +kernel
theorem dX9_say_63 : decode cX9_say 63 = .ok (.getfield 29, 3) := by decide +kernel
theorem dX9_say_66 : decode cX9_say 66 = .ok (.aload_n 0, 1) := by decide +kernel
theorem dX9_say_67 : decode cX9_say 67 = .ok (.getfield 112, 3) := by decide +kernel
theorem dX9_say_70 : decode cX9_say 70 = .ok (.bipush 40, 2) := by decide +kernel
theorem dX9_say_72 : decode cX9_say 72 = .ok (.irem, 1) := by decide +kernel
theorem dX9_say_73 : decode cX9_say 73 = .ok (.iconst 1, 1) := by decide +kernel
theorem dX9_say_74 : decode cX9_say 74 = .ok (.iastore, 1) := by decide +kernel
theorem dX9_say_75 : decode cX9_say 75 = .ok (.aload_n 0, 1) := by decide +kernel
theorem dX9_say_76 : decode cX9_say 76 = .ok (.dup, 1) := by decide +kernel
theorem dX9_say_77 : decode cX9_say 77 = .ok (.getfield 112, 3) := by decide +kernel
theorem dX9_say_80 : decode cX9_say 80 = .ok (.iconst 1, 1) := by decide +kernel
theorem dX9_say_81 : decode cX9_say 81 = .ok (.iadd, 1) := by decide +kernel
theorem dX9_say_82 : decode cX9_say 82 = .ok (.putfield 112, 3) := by decide +kernel
theorem dX9_say_85 : decode cX9_say 85 = .ok (.return_, 1) := by decide +kernel
theorem dX9_come_0 : decode cX9_come 0 = .ok (.aload_n 0, 1) := by decide +kernel
theorem dX9_come_1 : decode cX9_come 1 = .ok (.getfield 88, 3) := by decide +kernel
theorem dX9_come_4 : decode cX9_come 4 = .ok (.ifCond .ne 4, 3) := by decide +kernel
theorem dX9_come_7 : decode cX9_come 7 = .ok (.return_, 1) := by decide +kernel
theorem dX9_come_8 : decode cX9_come 8 = .ok (.aload_n 0, 1) := by decide +kernel
theorem dX9_come_9 : decode cX9_come 9 = .ok (.aload_n 0, 1) := by decide +kernel
theorem dX9_come_10 : decode cX9_come 10 = .ok (.getfield 19, 3) := by decide +kernel
theorem dX9_come_13 : decode cX9_come 13 = .ok (.iconst 0, 1) := by decide +kernel
theorem dX9_come_14 : decode cX9_come 14 = .ok (.baload, 1) := by decide +kernel
theorem dX9_come_15 : decode cX9_come 15 = .ok (.putfield 91, 3) := by decide +kernel
theorem dX9_come_18 : decode cX9_come 18 = .ok (.aload_n 0, 1) := by decide +kernel
theorem dX9_come_19 : decode cX9_come 19 = .ok (.getfield 23, 3) := by decide +kernel
theorem dX9_come_22 : decode cX9_come 22 = .ok (.iconst 0, 1) := by decide +kernel
theorem dX9_come_23 : decode cX9_come 23 = .ok (.dup2, 1) := by decide +kernel
theorem dX9_come_24 : decode cX9_come 24 = .ok (.iaload, 1) := by decide +kernel
theorem dX9_come_25 : decode cX9_come 25 = .ok (.iconst 1, 1) := by decide +kernel
theorem dX9_come_26 : decode cX9_come 26 = .ok (.isub, 1) := by decide +kernel
theorem dX9_come_27 : decode cX9_come 27 = .ok (.iastore, 1) := by decide +kernel
theorem dX9_come_28 : decode cX9_come 28 = .ok (.aload_n 0, 1) := by decide +kernel
theorem dX9_come_29 : decode cX9_come 29 = .ok (.getfield 23, 3) := by decide +kernel
theorem dX9_come_32 : decode cX9_come 32 = .ok (.iconst 0, 1) := by decide +kernel
theorem dX9_come_33 : decode cX9_come 33 = .ok (.iaload, 1) := by decide +kernel
theorem dX9_come_34 : decode cX9_come 34 = .ok (.ifCond .le 4, 3) := by decide +kernel
theorem dX9_come_37 : decode cX9_come 37 = .ok (.return_, 1) := by decide +kernel
theorem dX9_come_38 : decode cX9_come 38 = .ok (.aload_n 0, 1) := by decide +kernel
theorem dX9_come_39 : decode cX9_come 39 = .ok (.dup, 1) := by decide +kernel
theorem dX9_come_40 : decode cX9_come 40 = .ok (.getfield 88, 3) := by decide +kernel
theorem dX9_come_43 : decode cX9_come 43 = .ok (.iconst 1, 1) := by decide +kernel
theorem dX9_come_44 : decode cX9_come 44 = .ok (.isub, 1) := by decide +kernel
theorem dX9_come_45 : decode cX9_come 45 = .ok (.putfield 88, 3) := by decide +kernel
theorem dX9_come_48 : decode cX9_come 48 = .ok (.iconst 0, 1) := by decide +kernel
theorem dX9_come_49 : decode cX9_come 49 = .ok (.istore_n 1, 1) := by decide +kernel
theorem dX9_come_50 : decode cX9_come 50 = .ok (.iload_n 1, 1) := by decide +kernel
theorem dX9_come_51 : decode cX9_come 51 = .ok (.aload_n 0, 1) := by decide +kernel
theorem dX9_come_52 : decode cX9_come 52 = .ok (.getfield 88, 3) := by decide +kernel
theorem dX9_come_55 : decode cX9_come 55 = .ok (.if_icmp .ge 37, 3) := by decide +kernel
theorem dX9_come_58 : decode cX9_come 58 = .ok (.aload_n 0, 1) := by decide +kernel
theorem dX9_come_59 : decode cX9_come 59 = .ok (.getfield 19, 3) := by decide +kernel
theorem dX9_come_62 : decode cX9_come 62 = .ok (.iload_n 1, 1) := by decide +kernel
theorem dX9_come_63 : decode cX9_come 63 = .ok (.aload_n 0, 1) := by decide +kernel
theorem dX9_come_64 : decode cX9_come 64 = .ok (.getfield 19, 3) := by decide +kernel
theorem dX9_come_67 : decode cX9_come 67 = .ok (.iload_n 1, 1) := by decide +kernel
theorem dX9_come_68 : decode cX9_come 68 = .ok (.iconst 1, 1) := by decide +kernel
theorem dX9_come_69 : decode cX9_come 69 = .ok (.iadd, 1) := by decide +kernel
theorem dX9_come_70 : decode cX9_come 70 = .ok (.baload, 1) := by decide +kernel
theorem dX9_come_71 : decode cX9_come 71 = .ok (.bastore, 1) := by decide +kernel
theorem dX9_come_72 : decode cX9_come 72 = .ok (.aload_n 0, 1) := by decide +kernel
theorem dX9_come_73 : decode cX9_come 73 = .ok (.getfield 23, 3) := by decide +kernel
theorem dX9_come_76 : decode cX9_come 76 = .ok (.iload_n 1, 1) := by decide +kernel
theorem dX9_come_77 : decode cX9_come 77 = .ok (.aload_n 0, 1) := by decide +kernel
theorem dX9_come_78 : decode cX9_come 78 = .ok (.getfield 23, 3) := by decide +kernel
theorem dX9_come_81 : decode cX9_come 81 = .ok (.iload_n 1, 1) := by decide +kernel
theorem dX9_come_82 : decode cX9_come 82 = .ok (.iconst 1, 1) := by decide +kernel
theorem dX9_come_83 : decode cX9_come 83 = .ok (.iadd, 1) := by decide +kernel
theorem dX9_come_84 : decode cX9_come 84 = .ok (.iaload, 1) := by decide +kernel
theorem dX9_come_85 : decode cX9_come 85 = .ok (.iastore, 1) := by decide +kernel
theorem dX9_come_86 : decode cX9_come 86 = .ok (.iinc 1 1, 3) := by decide +kernel
theorem dX9_come_89 : decode cX9_come 89 = .ok (.goto (-39), 3) := by decide +kernel
theorem dX9_come_92 : decode cX9_come 92 = .ok (.return_, 1) := by decide +kernel
theorem dX9_put_0 : decode cX9_put 0 = .ok (.aload_n 0, 1) := by decide +kernel
theorem dX9_put_1 : decode cX9_put 1 = .ok (.getfield 70, 3) := by decide +kernel
theorem dX9_put_4 : decode cX9_put 4 = .ok (.aload_n 0, 1) := by decide +kernel
theorem dX9_put_5 : decode cX9_put 5 = .ok (.invokevirtual 151, 3) := by decide +kernel
theorem dX9_put_8 : decode cX9_put 8 = .ok (.if_icmp .ne 21, 3) := by decide +kernel
theorem dX9_put_11 : decode cX9_put 11 = .ok (.aload_n 0, 1) := by decide +kernel
theorem dX9_put_12 : decode cX9_put 12 = .ok (.iconst 1, 1) := by decide +kernel
theorem dX9_put_13 : decode cX9_put 13 = .ok (.putfield 73, 3) := by decide +kernel
theorem dX9_put_16 : decode cX9_put 16 = .ok (.aload_n 0, 1) := by decide +kernel
theorem dX9_put_17 : decode cX9_put 17 = .ok (.getfield 48, 3) := by decide +kernel
theorem dX9_put_20 : decode cX9_put 20 = .ok (.ifCond .eq 4, 3) := by decide +kernel
theorem dX9_put_23 : decode cX9_put 23 = .ok (.return_, 1) := by decide +kernel
theorem dX9_put_24 : decode cX9_put 24 = .ok (.aload_n 0, 1) := by decide +kernel
theorem dX9_put_25 : decode cX9_put 25 = .ok (.iconst 0, 1) := by decide +kernel
theorem dX9_put_26 : decode cX9_put 26 = .ok (.putfield 70, 3) := by decide +kernel
theorem dX9_put_29 : decode cX9_put 29 = .ok (.aload_n 0, 1) := by decide +kernel
theorem dX9_put_30 : decode cX9_put 30 = .ok (.getfield 9, 3) := by decide +kernel
theorem dX9_put_33 : decode cX9_put 33 = .ok (.aload_n 0, 1) := by decide +kernel
theorem dX9_put_34 : decode cX9_put 34 = .ok (.getfield 70, 3) := by decide +kernel
theorem dX9_put_37 : decode cX9_put 37 = .ok (.iload_n 1, 1) := by decide +kernel
theorem dX9_put_38 : decode cX9_put 38 = .ok (.iastore, 1) := by decide +kernel
theorem dX9_put_39 : decode cX9_put 39 = .ok (.aload_n 0, 1) := by decide +kernel
theorem dX9_put_40 : decode cX9_put 40 = .ok (.getfield 13, 3) := by decide +kernel
theorem dX9_put_43 : decode cX9_put 43 = .ok (.aload_n 0, 1) := by decide +kernel
theorem dX9_put_44 : decode cX9_put 44 = .ok (.getfield 70, 3) := by decide +kernel
theorem dX9_put_47 : decode cX9_put 47 = .ok (.iload_n 2, 1) := by decide +kernel
theorem dX9_put_48 : decode cX9_put 48 = .ok (.iastore, 1) := by decide +kernel
theorem dX9_put_49 : decode cX9_put 49 = .ok (.aload_n 0, 1) := by decide +kernel
theorem dX9_put_50 : decode cX9_put 50 = .ok (.dup, 1) := by decide +kernel
theorem dX9_put_51 : decode cX9_put 51 = .ok (.getfield 70, 3) := by decide +kernel
theorem dX9_put_54 : decode cX9_put 54 = .ok (.iconst 1, 1) := by decide +kernel
theorem dX9_put_55 : decode cX9_put 55 = .ok (.iadd, 1) := by decide +kernel
theorem dX9_put_56 : decode cX9_put 56 = .ok (.putfield 70, 3) := by decide +kernel
theorem dX9_put_59 : decode cX9_put 59 = .ok (.aload_n 0, 1) := by decide +kernel
theorem dX9_put_60 : decode cX9_put 60 = .ok (.iconst (-1), 1) := by decide +kernel
theorem dX9_put_61 : decode cX9_put 61 = .ok (.putfield 85, 3) := by decide +kernel
theorem dX9_put_64 : decode cX9_put 64 = .ok (.return_, 1) := by decide +kernel
set_option maxRecDepth 20000 in
theorem ggX9_put_X9_room : GoodIn wsX9_put wsX9_room := goodIn_r _ [11, 3, 12, 13, 14, 15, 16, 17, 18, 19, 20, 21, 22, 23, 24, 25, 26, 27, 28, 29, 30, 31, 32, 33, 34, 35, 36, 37, 38, 39, 40, 41, 42, 43, 44, 45, 46, 47, 48, 49, 50, 51] (by decide +kernel) (by decide +kernel)
set_option maxRecDepth 20000 in
theorem gX9_put_X9_room : GoodIn wsX9_put (wsV RX9 151 RX9 yX9_room wsX9_room) := goodIn_app (goodIn_of _ (by decide +kernel)) ggX9_put_X9_room
theorem dX9_receive_0 : decode cX9_receive 0 = .ok (.aload_n 0, 1) := by decide +kernel
theorem dX9_receive_1 : decode cX9_receive 1 = .ok (.invokevirtual 135, 3) := by decide +kernel
theorem dX9_receive_4 : decode cX9_receive 4 = .ok (.ifCond .eq 10, 3) := by decide +kernel
theorem dX9_receive_7 : decode cX9_receive 7 = .ok (.aload_n 0, 1) := by decide +kernel
theorem dX9_receive_8 : decode cX9_receive 8 = .ok (.getfield 97, 3) := by decide +kernel
theorem dX9_receive_11 : decode cX9_receive 11 = .ok (.goto 7, 3) := by decide +kernel
theorem dX9_receive_14 : decode cX9_receive 14 = .ok (.aload_n 0, 1) := by decide +kernel
theorem dX9_receive_15 : decode cX9_receive 15 = .ok (.getfield 91, 3) := by decide +kernel
theorem dX9_receive_18 : decode cX9_receive 18 = .ok (.istore_n 1, 1) := by decide +kernel
theorem dX9_receive_19 : decode cX9_receive 19 = .ok (.aload_n 0, 1) := by decide +kernel
theorem dX9_receive_20 : decode cX9_receive 20 = .ok (.getfield 100, 3) := by decide +kernel
theorem dX9_receive_23 : decode cX9_receive 23 = .ok (.ifCond .ne 51, 3) := by decide +kernel
theorem dX9_receive_26 : decode cX9_receive 26 = .ok (.iload_n 1, 1) := by decide +kernel
theorem dX9_receive_27 : decode cX9_receive 27 = .ok (.ifCond .eq 11, 3) := by decide +kernel
theorem dX9_receive_30 : decode cX9_receive 30 = .ok (.aload_n 0, 1) := by decide +kernel
theorem dX9_receive_31 : decode cX9_receive 31 = .ok (.iconst 1, 1) := by decide +kernel
theorem dX9_receive_32 : decode cX9_receive 32 = .ok (.putfield 103, 3) := by decide +kernel
theorem dX9_receive_35 : decode cX9_receive 35 = .ok (.goto 38, 3) := by decide +kernel
theorem dX9_receive_38 : decode cX9_receive 38 = .ok (.aload_n 0, 1) := by decide +kernel
theorem dX9_receive_39 : decode cX9_receive 39 = .ok (.getfield 103, 3) := by decide +kernel
theorem dX9_receive_42 : decode cX9_receive 42 = .ok (.ifCond .eq 31, 3) := by decide +kernel
theorem dX9_receive_45 : decode cX9_receive 45 = .ok (.aload_n 0, 1) := by decide +kernel
theorem dX9_receive_46 : decode cX9_receive 46 = .ok (.iconst 1, 1) := by decide +kernel
theorem dX9_receive_47 : decode cX9_receive 47 = .ok (.putfield 100, 3) := by decide +kernel
theorem dX9_receive_50 : decode cX9_receive 50 = .ok (.aload_n 0, 1) := by decide +kernel
theorem dX9_receive_51 : decode cX9_receive 51 = .ok (.aload_n 0, 1) := by decide +kernel
theorem dX9_receive_52 : decode cX9_receive 52 = .ok (.getfield 55, 3) := by decide +kernel
theorem dX9_receive_55 : decode cX9_receive 55 = .ok (.putfield 185, 3) := by decide +kernel
theorem dX9_receive_58 : decode cX9_receive 58 = .ok (.aload_n 0, 1) := by decide +kernel
theorem dX9_receive_59 : decode cX9_receive 59 = .ok (.iconst 0, 1) := by decide +kernel
theorem dX9_receive_60 : decode cX9_receive 60 = .ok (.putfield 188, 3) := by decide +kernel
theorem dX9_receive_63 : decode cX9_receive 63 = .ok (.aload_n 0, 1) := by decide +kernel
theorem dX9_receive_64 : decode cX9_receive 64 = .ok (.iconst 0, 1) := by decide +kernel
theorem dX9_receive_65 : decode cX9_receive 65 = .ok (.putfield 191, 3) := by decide +kernel
theorem dX9_receive_68 : decode cX9_receive 68 = .ok (.aload_n 0, 1) := by decide +kernel
theorem dX9_receive_69 : decode cX9_receive 69 = .ok (.iconst 0, 1) := by decide +kernel
theorem dX9_receive_70 : decode cX9_receive 70 = .ok (.putfield 194, 3) := by decide +kernel
theorem dX9_receive_73 : decode cX9_receive 73 = .ok (.return_, 1) := by decide +kernel
theorem dX9_receive_74 : decode cX9_receive 74 = .ok (.aload_n 0, 1) := by decide +kernel
theorem dX9_receive_75 : decode cX9_receive 75 = .ok (.dup, 1) := by decide +kernel
theorem dX9_receive_76 : decode cX9_receive 76 = .ok (.getfield 188, 3) := by decide +kernel
theorem dX9_receive_79 : decode cX9_receive 79 = .ok (.iconst 1, 1) := by decide +kernel
theorem dX9_receive_80 : decode cX9_receive 80 = .ok (.iadd, 1) := by decide +kernel
theorem dX9_receive_81 : decode cX9_receive 81 = .ok (.putfield 188, 3) := by decide +kernel
theorem dX9_receive_84 : decode cX9_receive 84 = .ok (.aload_n 0, 1) := by decide +kernel
theorem dX9_receive_85 : decode cX9_receive 85 = .ok (.getfield 188, 3) := by decide +kernel
theorem dX9_receive_88 : decode cX9_receive 88 = .ok (.bipush 16, 2) := by decide +kernel
theorem dX9_receive_90 : decode cX9_receive 90 = .ok (.irem, 1) := by decide +kernel
theorem dX9_receive_91 : decode cX9_receive 91 = .ok (.bipush 7, 2) := by decide +kernel
theorem dX9_receive_93 : decode cX9_receive 93 = .ok (.if_icmp .eq 4, 3) := by decide +kernel
theorem dX9_receive_96 : decode cX9_receive 96 = .ok (.return_, 1) := by decide +kernel
theorem dX9_receive_97 : decode cX9_receive 97 = .ok (.aload_n 0, 1) := by decide +kernel
theorem dX9_receive_98 : decode cX9_receive 98 = .ok (.getfield 188, 3) := by decide +kernel
theorem dX9_receive_101 : decode cX9_receive 101 = .ok (.bipush 16, 2) := by decide +kernel
theorem dX9_receive_103 : decode cX9_receive 103 = .ok (.idiv, 1) := by decide +kernel
theorem dX9_receive_104 : decode cX9_receive 104 = .ok (.istore_n 2, 1) := by decide +kernel
theorem dX9_receive_105 : decode cX9_receive 105 = .ok (.aload_n 0, 1) := by decide +kernel
theorem dX9_receive_106 : decode cX9_receive 106 = .ok (.getfield 185, 3) := by decide +kernel
theorem dX9_receive_109 : decode cX9_receive 109 = .ok (.invokestatic 115, 3) := by decide +kernel
theorem dX9_receive_112 : decode cX9_receive 112 = .ok (.istore_n 3, 1) := by decide +kernel
theorem dX9_receive_113 : decode cX9_receive 113 = .ok (.iload_n 2, 1) := by decide +kernel
theorem dX9_receive_114 : decode cX9_receive 114 = .ok (.ifCond .ne 18, 3) := by decide +kernel
theorem dX9_receive_117 : decode cX9_receive 117 = .ok (.iload_n 1, 1) := by decide +kernel
theorem dX9_receive_118 : decode cX9_receive 118 = .ok (.ifCond .eq 13, 3) := by decide +kernel
theorem dX9_receive_121 : decode cX9_receive 121 = .ok (.aload_n 0, 1) := by decide +kernel
theorem dX9_receive_122 : decode cX9_receive 122 = .ok (.iconst 0, 1) := by decide +kernel
theorem dX9_receive_123 : decode cX9_receive 123 = .ok (.putfield 100, 3) := by decide +kernel
theorem dX9_receive_126 : decode cX9_receive 126 = .ok (.aload_n 0, 1) := by decide +kernel
theorem dX9_receive_127 : decode cX9_receive 127 = .ok (.iconst 1, 1) := by decide +kernel
theorem dX9_receive_128 : decode cX9_receive 128 = .ok (.putfield 103, 3) := by decide +kernel
theorem dX9_receive_131 : decode cX9_receive 131 = .ok (.return_, 1) := by decide +kernel
theorem dX9_receive_132 : decode cX9_receive 132 = .ok (.iload_n 2, 1) := by decide +kernel
theorem dX9_receive_133 : decode cX9_receive 133 = .ok (.iload_n 3, 1) := by decide +kernel
theorem dX9_receive_134 : decode cX9_receive 134 = .ok (.if_icmp .gt 22, 3) := by decide +kernel
theorem dX9_receive_137 : decode cX9_receive 137 = .ok (.iload_n 1, 1) := by decide +kernel
theorem dX9_receive_138 : decode cX9_receive 138 = .ok (.ifCond .eq 17, 3) := by decide +kernel
theorem dX9_receive_141 : decode cX9_receive 141 = .ok (.aload_n 0, 1) := by decide +kernel
theorem dX9_receive_142 : decode cX9_receive 142 = .ok (.dup, 1) := by decide +kernel
theorem dX9_receive_143 : decode cX9_receive 143 = .ok (.getfield 191, 3) := by decide +kernel
theorem dX9_receive_146 : decode cX9_receive 146 = .ok (.iconst 1, 1) := by decide +kernel
theorem dX9_receive_147 : decode cX9_receive 147 = .ok (.iload_n 2, 1) := by decide +kernel
theorem dX9_receive_148 : decode cX9_receive 148 = .ok (.iconst 1, 1) := by decide +kernel
theorem dX9_receive_149 : decode cX9_receive 149 = .ok (.isub, 1) := by decide +kernel
theorem dX9_receive_150 : decode cX9_receive 150 = .ok (.ishl, 1) := by decide +kernel
theorem dX9_receive_151 : decode cX9_receive 151 = .ok (.ior, 1) := by decide +kernel
theorem dX9_receive_152 : decode cX9_receive 152 = .ok (.putfield 191, 3) := by decide +kernel
theorem dX9_receive_155 : decode cX9_receive 155 = .ok (.return_, 1) := by decide +kernel
theorem dX9_receive_156 : decode cX9_receive 156 = .ok (.iload_n 2, 1) := by decide +kernel
theorem dX9_receive_157 : decode cX9_receive 157 = .ok (.iload_n 3, 1) := by decide +kernel
theorem dX9_receive_158 : decode cX9_receive 158 = .ok (.iconst 1, 1) := by decide +kernel
theorem dX9_receive_159 : decode cX9_receive 159 = .ok (.iadd, 1) := by decide +kernel
theorem dX9_receive_160 : decode cX9_receive 160 = .ok (.if_icmp .ne 27, 3) := by decide +kernel
theorem dX9_receive_163 : decode cX9_receive 163 = .ok (.aload_n 0, 1) := by decide +kernel
theorem dX9_receive_164 : decode cX9_receive 164 = .ok (.getfield 185, 3) := by decide +kernel
theorem dX9_receive_167 : decode cX9_receive 167 = .ok (.invokestatic 124, 3) := by decide +kernel
theorem dX9_receive_170 : decode cX9_receive 170 = .ok (.ifCond .eq 17, 3) := by decide +kernel
theorem dX9_receive_173 : decode cX9_receive 173 = .ok (.aload_n 0, 1) := by decide +kernel
theorem dX9_receive_174 : decode cX9_receive 174 = .ok (.iload_n 1, 1) := by decide +kernel
theorem dX9_receive_175 : decode cX9_receive 175 = .ok (.ifCond .eq 7, 3) := by decide +kernel
theorem dX9_receive_178 : decode cX9_receive 178 = .ok (.iconst 1, 1) := by decide +kernel
theorem dX9_receive_179 : decode cX9_receive 179 = .ok (.goto 4, 3) := by decide +kernel
theorem dX9_receive_182 : decode cX9_receive 182 = .ok (.iconst 0, 1) := by decide +kernel
theorem dX9_receive_183 : decode cX9_receive 183 = .ok (.putfield 194, 3) := by decide +kernel
theorem dX9_receive_186 : decode cX9_receive 186 = .ok (.return_, 1) := by decide +kernel
theorem dX9_receive_187 : decode cX9_receive 187 = .ok (.iconst 0, 1) := by decide +kernel
theorem dX9_receive_188 : decode cX9_receive 188 = .ok (.istore 4, 2) := by decide +kernel
theorem dX9_receive_190 : decode cX9_receive 190 = .ok (.aload_n 0, 1) := by decide +kernel
theorem dX9_receive_191 : decode cX9_receive 191 = .ok (.getfield 185, 3) := by decide +kernel
theorem dX9_receive_194 : decode cX9_receive 194 = .ok (.invokestatic 124, 3) := by decide +kernel
theorem dX9_receive_197 : decode cX9_receive 197 = .ok (.ifCond .eq 27, 3) := by decide +kernel
theorem dX9_receive_200 : decode cX9_receive 200 = .ok (.aload_n 0, 1) := by decide +kernel
theorem dX9_receive_201 : decode cX9_receive 201 = .ok (.getfield 194, 3) := by decide +kernel
theorem dX9_receive_204 : decode cX9_receive 204 = .ok (.aload_n 0, 1) := by decide +kernel
theorem dX9_receive_205 : decode cX9_receive 205 = .ok (.getfield 185, 3) := by decide +kernel
theorem dX9_receive_208 : decode cX9_receive 208 = .ok (.aload_n 0, 1) := by decide +kernel
theorem dX9_receive_209 : decode cX9_receive 209 = .ok (.getfield 191, 3) := by decide +kernel
theorem dX9_receive_212 : decode cX9_receive 212 = .ok (.invokestatic 131, 3) := by decide +kernel
theorem dX9_receive_215 : decode cX9_receive 215 = .ok (.if_icmp .eq 9, 3) := by decide +kernel
theorem dX9_receive_218 : decode cX9_receive 218 = .ok (.iload 4, 2) := by decide +kernel
theorem dX9_receive_220 : decode cX9_receive 220 = .ok (.iconst 4, 1) := by decide +kernel
theorem dX9_receive_221 : decode cX9_receive 221 = .ok (.ior, 1) := by decide +kernel
theorem dX9_receive_222 : decode cX9_receive 222 = .ok (.istore 4, 2) := by decide +kernel
theorem dX9_receive_224 : decode cX9_receive 224 = .ok (.iload_n 1, 1) := by decide +kernel
theorem dX9_receive_225 : decode cX9_receive 225 = .ok (.ifCond .ne 10, 3) := by decide +kernel
theorem dX9_receive_228 : decode cX9_receive 228 = .ok (.iload 4, 2) := by decide +kernel
theorem dX9_receive_230 : decode cX9_receive 230 = .ok (.bipush 8, 2) := by decide +kernel
theorem dX9_receive_232 : decode cX9_receive 232 = .ok (.ior, 1) := by decide +kernel
theorem dX9_receive_233 : decode cX9_receive 233 = .ok (.istore 4, 2) := by decide +kernel
theorem dX9_receive_235 : decode cX9_receive 235 = .ok (.iload_n 1, 1) := by decide +kernel
theorem dX9_receive_236 : decode cX9_receive 236 = .ok (.ifCond .ne 24, 3) := by decide +kernel
theorem dX9_receive_239 : decode cX9_receive 239 = .ok (.aload_n 0, 1) := by decide +kernel
theorem dX9_receive_240 : decode cX9_receive 240 = .ok (.getfield 191, 3) := by decide +kernel
theorem dX9_receive_243 : decode cX9_receive 243 = .ok (.ifCond .ne 17, 3) := by decide +kernel
theorem dX9_receive_246 : decode cX9_receive 246 = .ok (.aload_n 0, 1) := by decide +kernel
theorem dX9_receive_247 : decode cX9_receive 247 = .ok (.getfield 194, 3) := by decide +kernel
theorem dX9_receive_250 : decode cX9_receive 250 = .ok (.ifCond .ne 10, 3) := by decide +kernel
theorem dX9_receive_253 : decode cX9_receive 253 = .ok (.iload 4, 2) := by decide +kernel
theorem dX9_receive_255 : decode cX9_receive 255 = .ok (.bipush 16, 2) := by decide +kernel
theorem dX9_receive_257 : decode cX9_receive 257 = .ok (.ior, 1) := by decide +kernel
theorem dX9_receive_258 : decode cX9_receive 258 = .ok (.istore 4, 2) := by decide +kernel
theorem dX9_receive_260 : decode cX9_receive 260 = .ok (.aload_n 0, 1) := by decide +kernel
theorem dX9_receive_261 : decode cX9_receive 261 = .ok (.iconst 0, 1) := by decide +kernel
theorem dX9_receive_262 : decode cX9_receive 262 = .ok (.putfield 100, 3) := by decide +kernel
theorem dX9_receive_265 : decode cX9_receive 265 = .ok (.aload_n 0, 1) := by decide +kernel
theorem dX9_receive_266 : decode cX9_receive 266 = .ok (.iload_n 1, 1) := by decide +kernel
theorem dX9_receive_267 : decode cX9_receive 267 = .ok (.putfield 103, 3) := by decide +kernel
theorem dX9_receive_270 : decode cX9_receive 270 = .ok (.aload_n 0, 1) := by decide +kernel
theorem dX9_receive_271 : decode cX9_receive 271 = .ok (.aload_n 0, 1) := by decide +kernel
theorem dX9_receive_272 : decode cX9_receive 272 = .ok (.getfield 191, 3) := by decide +kernel
theorem dX9_receive_275 : decode cX9_receive 275 = .ok (.iload 4, 2) := by decide +kernel
theorem dX9_receive_277 : decode cX9_receive 277 = .ok (.invokevirtual 197, 3) := by decide +kernel
theorem dX9_receive_280 : decode cX9_receive 280 = .ok (.return_, 1) := by decide +kernel
set_option maxRecDepth 20000 in
theorem ggX9_receive_X9_loops : GoodIn wsX9_receive wsX9_loops := goodIn_r _ [14, 15, 46, 47, 48, 49, 50, 51, 52, 53, 54, 55, 56, 57, 58, 59, 60, 61, 62, 63, 64, 65, 66, 67, 68, 69, 70, 71, 72, 73, 74, 75, 76, 77, 78, 79, 80, 81, 82, 83, 84, 85] (by decide +kernel) (by decide +kernel)
set_option maxRecDepth 20000 in
theorem gX9_receive_X9_loops : GoodIn wsX9_receive (wsV RX9 135 RX9 yX9_loops wsX9_loops) := goodIn_app (goodIn_of _ (by decide +kernel)) ggX9_receive_X9_loops
set_option maxRecDepth 20000 in
theorem ggX9_receive_X9_bitsOf : GoodIn wsX9_receive wsX9_bitsOf := goodIn_r _ [18] (by decide +kernel) (by decide +kernel)
set_option maxRecDepth 20000 in
theorem gX9_receive_X9_bitsOf : GoodIn wsX9_receive (va_wsS RX9 115 yX9_bitsOf wsX9_bitsOf) := goodIn_app (goodIn_of _ (by decide +kernel)) ggX9_receive_X9_bitsOf
set_option maxRecDepth 20000 in
theorem ggX9_receive_X9_hasParity : GoodIn wsX9_receive wsX9_hasParity := goodIn_r _ [21] (by decide +kernel) (by decide +kernel)
set_option maxRecDepth 20000 in
theorem gX9_receive_X9_hasParity : GoodIn wsX9_receive (va_wsS RX9 124 yX9_hasParity wsX9_hasParity) := goodIn_app (goodIn_of _ (by decide +kernel)) ggX9_receive_X9_hasParity
set_option maxRecDepth 20000 in
theorem ggX9_receive_X9_parityOf : GoodIn wsX9_receive wsX9_parityOf := goodIn_r _ [24, 16, 17, 13, 18, 25, 26, 27, 28, 29, 30, 31] (by decide +kernel) (by decide +kernel)
set_option maxRecDepth 20000 in
theorem gX9_receive_X9_parityOf : GoodIn wsX9_receive (va_wsS RX9 131 yX9_parityOf wsX9_parityOf) := goodIn_app (goodIn_of _ (by decide +kernel)) ggX9_receive_X9_parityOf
set_option maxRecDepth 20000 in
theorem ggX9_receive_X9_put : GoodIn wsX9_receive wsX9_put := goodIn_r _ [35, 36, 37, 38, 39, 40, 41, 42, 43, 44, 13, 45, 46, 47, 48, 49, 50, 51, 52, 53, 54, 55, 56, 57, 58, 59, 60, 61, 62, 63, 64, 65, 66, 67, 68, 69, 70, 71, 72, 73, 74, 75, 76, 77, 78, 79, 80, 81, 82, 83, 84, 85] (by decide +kernel) (by decide +kernel)
set_option maxRecDepth 20000 in
theorem gX9_receive_X9_put : GoodIn wsX9_receive (wsV RX9 197 RX9 yX9_put wsX9_put) := goodIn_app (goodIn_of _ (by decide +kernel)) ggX9_receive_X9_put
def F_X9_send_94 (v_form : Int32) (v_sending_n : Nat) (v_sendingMany : Int32) (v_emptyUp : Bool) (v_sends : Bool) (v_sentCharacter : Int32) (v_sentForm : Int32) (v_sentBeat : Int32) (v_senderHigh : Bool) (v_sending_a : Nat → Int32) : Option (Int32 × Bool × Bool × Int32 × Int32 × Int32 × Bool × (Nat → Int32)) := bt v_sends (bd (F_X9_partOf v_sentForm v_sentCharacter (v_sentBeat / 16)) (fun u2 => lt1 (v_sentBeat + 1) (fun x3 => bd (F_X9_frameOf v_sentForm) (fun u4 => if x3 = u4 then (some (v_sendingMany, v_emptyUp, false, v_sentCharacter, v_sentForm, x3, u2, v_sending_a)) else (some (v_sendingMany, v_emptyUp, v_sends, v_sentCharacter, v_sentForm, x3, u2, v_sending_a)))))) (some (v_sendingMany, v_emptyUp, v_sends, v_sentCharacter, v_sentForm, v_sentBeat, true, v_sending_a))
def F_X9_send_76 (v_form : Int32) (v_sending_n : Nat) (v_sendingMany : Int32) (v_emptyUp : Bool) (v_sends : Bool) (v_sentCharacter : Int32) (v_sentForm : Int32) (v_sentBeat : Int32) (v_senderHigh : Bool) (v_sending_a : Nat → Int32) : Option (Int32 × Bool × Bool × Int32 × Int32 × Int32 × Bool × (Nat → Int32)) := F_X9_send_94 v_form v_sending_n v_sendingMany v_emptyUp true v_sentCharacter v_form 0 v_senderHigh v_sending_a
def F_X9_send_36_s (rec : Int32 → Int32 → Bool → Bool → Int32 → Int32 → Int32 → Bool → (Nat → Int32) → Option (Int32 × Bool × Bool × Int32 × Int32 × Int32 × Bool × (Nat → Int32))) (v_form : Int32) (v_sending_n : Nat) (l1 : Int32) (v_sendingMany : Int32) (v_emptyUp : Bool) (v_sends : Bool) (v_sentCharacter : Int32) (v_sentForm : Int32) (v_sentBeat : Int32) (v_senderHigh : Bool) (v_sending_a : Nat → Int32) : Option (Int32 × Bool × Bool × Int32 × Int32 × Int32 × Bool × (Nat → Int32)) := if v_sendingMany ≤ l1 then (if v_sendingMany = 0 then (F_X9_send_76 v_form v_sending_n v_sendingMany true v_sends v_sentCharacter v_sentForm v_sentBeat v_senderHigh v_sending_a) else (F_X9_send_76 v_form v_sending_n v_sendingMany v_emptyUp v_sends v_sentCharacter v_sentForm v_sentBeat v_senderHigh v_sending_a)) else (gd (inR (l1 + 1) v_sending_n = true) (gd (inR l1 v_sending_n = true) (lt1 (l1 + 1) (fun x10 => rec x10 v_sendingMany v_emptyUp v_sends v_sentCharacter v_sentForm v_sentBeat v_senderHigh (upd v_sending_a (l1.toNatClampNeg) (v_sending_a (l1 + 1).toNatClampNeg))))))
def F_X9_send_36 (v_form : Int32) (v_sending_n : Nat) : Nat → Int32 → Int32 → Bool → Bool → Int32 → Int32 → Int32 → Bool → (Nat → Int32) → Option (Int32 × Bool × Bool × Int32 × Int32 × Int32 × Bool × (Nat → Int32))
  | 0 => fun _ _ _ _ _ _ _ _ _ => none
  | n + 1 => F_X9_send_36_s (F_X9_send_36 v_form v_sending_n n) v_form v_sending_n
def F_X9_send  (v_form : Int32) (v_sendingMany : Int32) (v_emptyUp : Bool) (v_sends : Bool) (v_sentCharacter : Int32) (v_sentForm : Int32) (v_sentBeat : Int32) (v_senderHigh : Bool) (v_sending_n : Nat) (v_sending_a : Nat → Int32) : Option (Int32 × Bool × Bool × Int32 × Int32 × Int32 × Bool × (Nat → Int32)) := bt v_sends (F_X9_send_94 v_form v_sending_n v_sendingMany v_emptyUp v_sends v_sentCharacter v_sentForm v_sentBeat v_senderHigh v_sending_a) (if v_sendingMany ≤ 0 then (F_X9_send_94 v_form v_sending_n v_sendingMany v_emptyUp v_sends v_sentCharacter v_sentForm v_sentBeat v_senderHigh v_sending_a) else (gd (inR 0 v_sending_n = true) (lt1 (v_sending_a (0 : Int32).toNatClampNeg) (fun x14 => lt1 (v_sendingMany - 1) (fun x15 => F_X9_send_36 v_form v_sending_n 100000 0 x15 v_emptyUp v_sends x14 v_sentForm v_sentBeat v_senderHigh v_sending_a)))))
def wX9_send (k_sending : ClassId) (h_ : Nat) (h_received : Nat) (h_marks : Nat) (h_sending : Nat) (h_waveHigh : Nat) (h_waveBeats : Nat) (h_runHigh : Nat) (h_runBeats : Nat) (v_divisor : Int32) (v_clocks : Int32) (v_wanted : Int32) (v_rowsOn : Bool) (v_level : Int32) (v_form : Int32) (v_outputs : Int32) (v_byteKept : Int32) (v_ins : Int32) (v_changed : Int32) (v_receivedMany : Int32) (v_overrun : Bool) (v_lateUp : Bool) (v_lateCount : Int32) (v_waveMany : Int32) (v_lineIn : Bool) (v_takes : Bool) (v_sawHigh : Bool) (v_takenForm : Int32) (v_takenBeat : Int32) (v_takenBits : Int32) (v_takenParity : Int32) (v_beats : Int32) (v_out : Bool) (v_runs : Int32) (v_thrown : Int32) (v_sending_n : Nat) (u : Int32 × Bool × Bool × Int32 × Int32 × Int32 × Bool × (Nat → Int32)) : va_W := [oX9 h_ v_divisor v_clocks v_wanted v_rowsOn v_level v_form v_outputs v_byteKept v_ins v_changed h_received h_marks v_receivedMany v_overrun h_sending u.1 u.2.1 v_lateUp v_lateCount h_waveHigh h_waveBeats v_waveMany v_lineIn u.2.2.1 u.2.2.2.1 u.2.2.2.2.1 u.2.2.2.2.2.1 u.2.2.2.2.2.2.1 v_takes v_sawHigh v_takenForm v_takenBeat v_takenBits v_takenParity v_beats v_out h_runHigh h_runBeats v_runs v_thrown, aI h_sending k_sending v_sending_n u.2.2.2.2.2.2.2]
set_option maxHeartbeats 4000000 in
set_option maxRecDepth 100000 in
theorem mX9_send {l : Launch} (D : va_G) (k_sending : ClassId) (h_ : Nat) (h_received : Nat) (h_marks : Nat) (h_sending : Nat) (h_waveHigh : Nat) (h_waveBeats : Nat) (h_runHigh : Nat) (h_runBeats : Nat) (v_divisor : Int32) (v_clocks : Int32) (v_wanted : Int32) (v_rowsOn : Bool) (v_level : Int32) (v_form : Int32) (v_outputs : Int32) (v_byteKept : Int32) (v_ins : Int32) (v_changed : Int32) (v_receivedMany : Int32) (v_overrun : Bool) (v_sendingMany : Int32) (v_emptyUp : Bool) (v_lateUp : Bool) (v_lateCount : Int32) (v_waveMany : Int32) (v_lineIn : Bool) (v_sends : Bool) (v_sentCharacter : Int32) (v_sentForm : Int32) (v_sentBeat : Int32) (v_senderHigh : Bool) (v_takes : Bool) (v_sawHigh : Bool) (v_takenForm : Int32) (v_takenBeat : Int32) (v_takenBits : Int32) (v_takenParity : Int32) (v_beats : Int32) (v_out : Bool) (v_runs : Int32) (v_thrown : Int32) (v_sending_n : Nat) (v_sending_a : Nat → Int32) (u0 : Int32 × Bool × Bool × Int32 × Int32 × Int32 × Bool × (Nat → Int32)) (hF : F_X9_send v_form v_sendingMany v_emptyUp v_sends v_sentCharacter v_sentForm v_sentBeat v_senderHigh v_sending_n v_sending_a = some u0) : MV l yX9_send wsX9_send { frames := 3, cells := 0, slots := 0, locals := 65 } D [(k_sending, .int)] [.ref h_] [oX9 h_ v_divisor v_clocks v_wanted v_rowsOn v_level v_form v_outputs v_byteKept v_ins v_changed h_received h_marks v_receivedMany v_overrun h_sending v_sendingMany v_emptyUp v_lateUp v_lateCount h_waveHigh h_waveBeats v_waveMany v_lineIn v_sends v_sentCharacter v_sentForm v_sentBeat v_senderHigh v_takes v_sawHigh v_takenForm v_takenBeat v_takenBits v_takenParity v_beats v_out h_runHigh h_runBeats v_runs v_thrown, aI h_sending k_sending v_sending_n v_sending_a] (wX9_send k_sending h_ h_received h_marks h_sending h_waveHigh h_waveBeats h_runHigh h_runBeats v_divisor v_clocks v_wanted v_rowsOn v_level v_form v_outputs v_byteKept v_ins v_changed v_receivedMany v_overrun v_lateUp v_lateCount v_waveMany v_lineIn v_takes v_sawHigh v_takenForm v_takenBeat v_takenBits v_takenParity v_beats v_out v_runs v_thrown v_sending_n u0) := by
  refine MV.ofW (cc := cX9_send) (maxL := 2) (ret := none) (lv := [(0, .ref h_)]) (by decide +kernel) rfl (Nat.le_of_ble_eq_true rfl) rfl ?_
  intro p e s m args below meth c A ls hx hb hr hml hts hown hlocks hA hK hP hD hS hl
  replace hown : s.vm.findClass RX9 = some m.cls := hown
  have i_X9 : ∀ w ∈ wsX90, w ∈ wsX9_send := by decide +kernel
  have f_16 := hts (.fieldLink RX9 16 "SerialPortModel" "sending" "[I") (by decide +kernel)
  have f_55 := hts (.fieldLink RX9 55 "SerialPortModel" "form" "I") (by decide +kernel)
  have f_76 := hts (.fieldLink RX9 76 "SerialPortModel" "sendingMany" "I") (by decide +kernel)
  have f_79 := hts (.fieldLink RX9 79 "SerialPortModel" "emptyUp" "Z") (by decide +kernel)
  have f_94 := hts (.fieldLink RX9 94 "SerialPortModel" "sends" "Z") (by decide +kernel)
  have f_97 := hts (.fieldLink RX9 97 "SerialPortModel" "senderHigh" "Z") (by decide +kernel)
  have f_169 := hts (.fieldLink RX9 169 "SerialPortModel" "sentCharacter" "I") (by decide +kernel)
  have f_172 := hts (.fieldLink RX9 172 "SerialPortModel" "sentForm" "I") (by decide +kernel)
  have f_175 := hts (.fieldLink RX9 175 "SerialPortModel" "sentBeat" "I") (by decide +kernel)
  have hret : ∀ (u : Int32 × Bool × Bool × Int32 × Int32 × Int32 × Bool × (Nat → Int32)) (H : Heap) (locs : List Loc) (pc : Nat) (ls : Array Slot), va_P D vwCl (wX9_send k_sending h_ h_received h_marks h_sending h_waveHigh h_waveBeats h_runHigh h_runBeats v_divisor v_clocks v_wanted v_rowsOn v_level v_form v_outputs v_byteKept v_ins v_changed v_receivedMany v_overrun v_lateUp v_lateCount v_waveMany v_lineIn v_takes v_sawHigh v_takenForm v_takenBeat v_takenBits v_takenParity v_beats v_out v_runs v_thrown v_sending_n u) H → va_D A (wX9_send k_sending h_ h_received h_marks h_sending h_waveHigh h_waveBeats h_runHigh h_runBeats v_divisor v_clocks v_wanted v_rowsOn v_level v_form v_outputs v_byteKept v_ins v_changed v_receivedMany v_overrun v_lateUp v_lateCount v_waveMany v_lineIn v_takes v_sawHigh v_takenForm v_takenBeat v_takenBits v_takenParity v_beats v_out v_runs v_thrown v_sending_n u) → va_S A s.heap H locs → some u = some u0 → decode cX9_send pc = .ok (.return_, 1) → W p l e { frames := 3, cells := 0, slots := 0, locals := 65 } s m args below meth c H locs 0 0 (QV below D [(k_sending, .int)] (wX9_send k_sending h_ h_received h_marks h_sending h_waveHigh h_waveBeats h_runHigh h_runBeats v_divisor v_clocks v_wanted v_rowsOn v_level v_form v_outputs v_byteKept v_ins v_changed v_receivedMany v_overrun v_lateUp v_lateCount v_waveMany v_lineIn v_takes v_sawHigh v_takenForm v_takenBeat v_takenBits v_takenParity v_beats v_out v_runs v_thrown v_sending_n u0) args s A) (F0 m pc ls []) := fun u H locs pc ls h1 h2 h3 h4 h5 => rV (wf := wX9_send k_sending h_ h_received h_marks h_sending h_waveHigh h_waveBeats h_runHigh h_runBeats v_divisor v_clocks v_wanted v_rowsOn v_level v_form v_outputs v_byteKept v_ins v_changed v_receivedMany v_overrun v_lateUp v_lateCount v_waveMany v_lineIn v_takes v_sawHigh v_takenForm v_takenBeat v_takenBits v_takenParity v_beats v_out v_runs v_thrown v_sending_n) hx hb hr hlocks hK h1 h2 h3 h4 h5
  have J94 : ∀ (v_sendingMany : Int32) (v_emptyUp : Bool) (v_sends : Bool) (v_sentCharacter : Int32) (v_sentForm : Int32) (v_sentBeat : Int32) (v_senderHigh : Bool) (v_sending_a : Nat → Int32) (H : Heap) (locs : List Loc) (ls : Array Slot), F_X9_send_94 v_form v_sending_n v_sendingMany v_emptyUp v_sends v_sentCharacter v_sentForm v_sentBeat v_senderHigh v_sending_a = some u0 → lv_has ls 2 [(0, .ref h_)] → va_P D vwCl [oX9 h_ v_divisor v_clocks v_wanted v_rowsOn v_level v_form v_outputs v_byteKept v_ins v_changed h_received h_marks v_receivedMany v_overrun h_sending v_sendingMany v_emptyUp v_lateUp v_lateCount h_waveHigh h_waveBeats v_waveMany v_lineIn v_sends v_sentCharacter v_sentForm v_sentBeat v_senderHigh v_takes v_sawHigh v_takenForm v_takenBeat v_takenBits v_takenParity v_beats v_out h_runHigh h_runBeats v_runs v_thrown, aI h_sending k_sending v_sending_n v_sending_a] H → va_D A [oX9 h_ v_divisor v_clocks v_wanted v_rowsOn v_level v_form v_outputs v_byteKept v_ins v_changed h_received h_marks v_receivedMany v_overrun h_sending v_sendingMany v_emptyUp v_lateUp v_lateCount h_waveHigh h_waveBeats v_waveMany v_lineIn v_sends v_sentCharacter v_sentForm v_sentBeat v_senderHigh v_takes v_sawHigh v_takenForm v_takenBeat v_takenBits v_takenParity v_beats v_out h_runHigh h_runBeats v_runs v_thrown, aI h_sending k_sending v_sending_n v_sending_a] → va_S A s.heap H locs → W p l e { frames := 3, cells := 0, slots := 0, locals := 65 } s m args below meth c H locs 0 0 (QV below D [(k_sending, .int)] (wX9_send k_sending h_ h_received h_marks h_sending h_waveHigh h_waveBeats h_runHigh h_runBeats v_divisor v_clocks v_wanted v_rowsOn v_level v_form v_outputs v_byteKept v_ins v_changed v_receivedMany v_overrun v_lateUp v_lateCount v_waveMany v_lineIn v_takes v_sawHigh v_takenForm v_takenBeat v_takenBits v_takenParity v_beats v_out v_runs v_thrown v_sending_n u0) args s A) (F0 m 94 ls []) := by
    intro v_sendingMany v_emptyUp v_sends v_sentCharacter v_sentForm v_sentBeat v_senderHigh v_sending_a H locs ls hF hl hP hD hS
    unfold F_X9_send_94 at hF
    refine lv_aload_n hx hb dX9_send_94 rfl (lv_at hl 0 rfl) ?_
    refine lv_iconst (v := 1) hx hb dX9_send_95 (by decide) ?_
    refine pf (ci := 8) (v := .int (bI true)) (ty := .boolean) (C := RX9) (T := TX9) (N := 40) (ws' := [oX9 h_ v_divisor v_clocks v_wanted v_rowsOn v_level v_form v_outputs v_byteKept v_ins v_changed h_received h_marks v_receivedMany v_overrun h_sending v_sendingMany v_emptyUp v_lateUp v_lateCount h_waveHigh h_waveBeats v_waveMany v_lineIn v_sends v_sentCharacter v_sentForm v_sentBeat true v_takes v_sawHigh v_takenForm v_takenBeat v_takenBits v_takenParity v_beats v_out h_runHigh h_runBeats v_runs v_thrown, aI h_sending k_sending v_sending_n v_sending_a]) hx hb hts i_X9 tyX9_ok nmX9 hown hK hP hD hS 0 rfl rfl 27 (Nat.le_of_ble_eq_true rfl) f_97 rfl rfl (by decide +kernel) (nar_bI true) (fit_bI true) (Nat.le_of_ble_eq_true rfl) rfl dX9_send_96 (fun H locs hP hD hS => ?_)
    refine lv_aload_n hx hb dX9_send_99 rfl (lv_at hl 0 rfl) ?_
    refine va_get (D := D) (ci := 8) (v := .int (bI v_sends)) (C := RX9) (T := TX9) (N := 40) hx hb hts i_X9 hown hK hP 0 rfl rfl 23 (Nat.le_of_ble_eq_true rfl) f_94 (fun _ h9 => h9) rfl dX9_send_100 ?_
    refine lv_if_ne (tgt := 107) hx hb dX9_send_103 (by decide) (fun c1 => ?_) (fun c1 => ?_)
    · replace hF := bt_t (bI_n0 c1) hF
      refine lv_aload_n hx hb dX9_send_107 rfl (lv_at hl 0 rfl) ?_
      refine lv_aload_n hx hb dX9_send_108 rfl (lv_at hl 0 rfl) ?_
      refine va_get (D := D) (ci := 8) (v := .int v_sentForm) (C := RX9) (T := TX9) (N := 40) hx hb hts i_X9 hown hK hP 0 rfl rfl 25 (Nat.le_of_ble_eq_true rfl) f_172 (fun _ h9 => h9) rfl dX9_send_109 ?_
      refine lv_aload_n hx hb dX9_send_112 rfl (lv_at hl 0 rfl) ?_
      refine va_get (D := D) (ci := 8) (v := .int v_sentCharacter) (C := RX9) (T := TX9) (N := 40) hx hb hts i_X9 hown hK hP 0 rfl rfl 24 (Nat.le_of_ble_eq_true rfl) f_169 (fun _ h9 => h9) rfl dX9_send_113 ?_
      refine lv_aload_n hx hb dX9_send_116 rfl (lv_at hl 0 rfl) ?_
      refine va_get (D := D) (ci := 8) (v := .int v_sentBeat) (C := RX9) (T := TX9) (N := 40) hx hb hts i_X9 hown hK hP 0 rfl rfl 26 (Nat.le_of_ble_eq_true rfl) f_175 (fun _ h9 => h9) rfl dX9_send_117 ?_
      refine lv_bipush (v := 16) hx hb dX9_send_120 (by decide) ?_
      refine lv_idiv hx hb dX9_send_122 (by decide) ?_
      obtain ⟨u2, hu2, hF⟩ := bd_el hF
      refine cSI (As := [.int v_sentForm, .int v_sentCharacter, .int (v_sentBeat / 16)]) (rest := [.ref h_]) (wr := [oX9 h_ v_divisor v_clocks v_wanted v_rowsOn v_level v_form v_outputs v_byteKept v_ins v_changed h_received h_marks v_receivedMany v_overrun h_sending v_sendingMany v_emptyUp v_lateUp v_lateCount h_waveHigh h_waveBeats v_waveMany v_lineIn v_sends v_sentCharacter v_sentForm v_sentBeat true v_takes v_sawHigh v_takenForm v_takenBeat v_takenBits v_takenParity v_beats v_out h_runHigh h_runBeats v_runs v_thrown, aI h_sending k_sending v_sending_n v_sending_a]) (ws' := [oX9 h_ v_divisor v_clocks v_wanted v_rowsOn v_level v_form v_outputs v_byteKept v_ins v_changed h_received h_marks v_receivedMany v_overrun h_sending v_sendingMany v_emptyUp v_lateUp v_lateCount h_waveHigh h_waveBeats v_waveMany v_lineIn v_sends v_sentCharacter v_sentForm v_sentBeat true v_takes v_sawHigh v_takenForm v_takenBeat v_takenBits v_takenParity v_beats v_out h_runHigh h_runBeats v_runs v_thrown, aI h_sending k_sending v_sending_n v_sending_a]) (rv := bI u2) ⟨hx, hb, hml, hown, hts⟩ (mX9_partOf D v_sentForm v_sentCharacter (v_sentBeat / 16) u2 hu2) (va_cwS 3 hts gX9_send_X9_partOf rfl rfl rfl (by decide +kernel) ⟨Nat.le_of_ble_eq_true rfl, Nat.le_of_ble_eq_true rfl⟩) hK hP hD hS hA [] [] [0, 1] [0, 1] rfl rfl rfl rfl rfl rfl hl.1 rfl (Nat.le_of_ble_eq_true rfl) rfl dX9_send_123 ⟨Nat.le_refl _, Nat.le_refl _⟩ (fun H locs hP hD hS => ?_)
      refine pf (ci := 8) (v := .int (bI u2)) (ty := .boolean) (C := RX9) (T := TX9) (N := 40) (ws' := [oX9 h_ v_divisor v_clocks v_wanted v_rowsOn v_level v_form v_outputs v_byteKept v_ins v_changed h_received h_marks v_receivedMany v_overrun h_sending v_sendingMany v_emptyUp v_lateUp v_lateCount h_waveHigh h_waveBeats v_waveMany v_lineIn v_sends v_sentCharacter v_sentForm v_sentBeat u2 v_takes v_sawHigh v_takenForm v_takenBeat v_takenBits v_takenParity v_beats v_out h_runHigh h_runBeats v_runs v_thrown, aI h_sending k_sending v_sending_n v_sending_a]) hx hb hts i_X9 tyX9_ok nmX9 hown hK hP hD hS 0 rfl rfl 27 (Nat.le_of_ble_eq_true rfl) f_97 rfl rfl (by decide +kernel) (nar_bI u2) (fit_bI u2) (Nat.le_of_ble_eq_true rfl) rfl dX9_send_126 (fun H locs hP hD hS => ?_)
      refine lv_aload_n hx hb dX9_send_129 rfl (lv_at hl 0 rfl) ?_
      refine lv_dup hx hb dX9_send_130 rfl ?_
      refine va_get (D := D) (ci := 8) (v := .int v_sentBeat) (C := RX9) (T := TX9) (N := 40) hx hb hts i_X9 hown hK hP 0 rfl rfl 26 (Nat.le_of_ble_eq_true rfl) f_175 (fun _ h9 => h9) rfl dX9_send_131 ?_
      refine lv_iconst (v := 1) hx hb dX9_send_134 (by decide) ?_
      refine lv_iadd hx hb dX9_send_135 ?_
      refine lv_topi (fun x3 ex3 => ?_)
      replace hF := lt1_x ex3 hF
      refine pf (ci := 8) (v := .int x3) (ty := .int) (C := RX9) (T := TX9) (N := 40) (ws' := [oX9 h_ v_divisor v_clocks v_wanted v_rowsOn v_level v_form v_outputs v_byteKept v_ins v_changed h_received h_marks v_receivedMany v_overrun h_sending v_sendingMany v_emptyUp v_lateUp v_lateCount h_waveHigh h_waveBeats v_waveMany v_lineIn v_sends v_sentCharacter v_sentForm x3 u2 v_takes v_sawHigh v_takenForm v_takenBeat v_takenBits v_takenParity v_beats v_out h_runHigh h_runBeats v_runs v_thrown, aI h_sending k_sending v_sending_n v_sending_a]) hx hb hts i_X9 tyX9_ok nmX9 hown hK hP hD hS 0 rfl rfl 26 (Nat.le_of_ble_eq_true rfl) f_175 rfl rfl (by decide +kernel) rfl rfl (Nat.le_of_ble_eq_true rfl) rfl dX9_send_136 (fun H locs hP hD hS => ?_)
      refine lv_aload_n hx hb dX9_send_139 rfl (lv_at hl 0 rfl) ?_
      refine va_get (D := D) (ci := 8) (v := .int x3) (C := RX9) (T := TX9) (N := 40) hx hb hts i_X9 hown hK hP 0 rfl rfl 26 (Nat.le_of_ble_eq_true rfl) f_175 (fun _ h9 => h9) rfl dX9_send_140 ?_
      refine lv_aload_n hx hb dX9_send_143 rfl (lv_at hl 0 rfl) ?_
      refine va_get (D := D) (ci := 8) (v := .int v_sentForm) (C := RX9) (T := TX9) (N := 40) hx hb hts i_X9 hown hK hP 0 rfl rfl 25 (Nat.le_of_ble_eq_true rfl) f_172 (fun _ h9 => h9) rfl dX9_send_144 ?_
      obtain ⟨u4, hu4, hF⟩ := bd_el hF
      refine cSI (As := [.int v_sentForm]) (rest := [.int x3]) (wr := [oX9 h_ v_divisor v_clocks v_wanted v_rowsOn v_level v_form v_outputs v_byteKept v_ins v_changed h_received h_marks v_receivedMany v_overrun h_sending v_sendingMany v_emptyUp v_lateUp v_lateCount h_waveHigh h_waveBeats v_waveMany v_lineIn v_sends v_sentCharacter v_sentForm x3 u2 v_takes v_sawHigh v_takenForm v_takenBeat v_takenBits v_takenParity v_beats v_out h_runHigh h_runBeats v_runs v_thrown, aI h_sending k_sending v_sending_n v_sending_a]) (ws' := [oX9 h_ v_divisor v_clocks v_wanted v_rowsOn v_level v_form v_outputs v_byteKept v_ins v_changed h_received h_marks v_receivedMany v_overrun h_sending v_sendingMany v_emptyUp v_lateUp v_lateCount h_waveHigh h_waveBeats v_waveMany v_lineIn v_sends v_sentCharacter v_sentForm x3 u2 v_takes v_sawHigh v_takenForm v_takenBeat v_takenBits v_takenParity v_beats v_out h_runHigh h_runBeats v_runs v_thrown, aI h_sending k_sending v_sending_n v_sending_a]) (rv := u4) ⟨hx, hb, hml, hown, hts⟩ (mX9_frameOf D v_sentForm u4 hu4) (va_cwS 1 hts gX9_send_X9_frameOf rfl rfl rfl (by decide +kernel) ⟨Nat.le_of_ble_eq_true rfl, Nat.le_of_ble_eq_true rfl⟩) hK hP hD hS hA [] [] [0, 1] [0, 1] rfl rfl rfl rfl rfl rfl hl.1 rfl (Nat.le_of_ble_eq_true rfl) rfl dX9_send_147 ⟨Nat.le_refl _, Nat.le_refl _⟩ (fun H locs hP hD hS => ?_)
      refine lv_icmp_ne (tgt := 158) hx hb dX9_send_150 (by decide) (fun c5 => ?_) (fun c5 => ?_)
      · replace hF := it_f c5 hF
        exact hret (v_sendingMany, v_emptyUp, v_sends, v_sentCharacter, v_sentForm, x3, u2, v_sending_a) _ _ 158 _ hP hD hS hF dX9_send_158
      · replace hF := it_t c5 hF
        refine lv_aload_n hx hb dX9_send_153 rfl (lv_at hl 0 rfl) ?_
        refine lv_iconst (v := 0) hx hb dX9_send_154 (by decide) ?_
        refine pf (ci := 8) (v := .int (bI false)) (ty := .boolean) (C := RX9) (T := TX9) (N := 40) (ws' := [oX9 h_ v_divisor v_clocks v_wanted v_rowsOn v_level v_form v_outputs v_byteKept v_ins v_changed h_received h_marks v_receivedMany v_overrun h_sending v_sendingMany v_emptyUp v_lateUp v_lateCount h_waveHigh h_waveBeats v_waveMany v_lineIn false v_sentCharacter v_sentForm x3 u2 v_takes v_sawHigh v_takenForm v_takenBeat v_takenBits v_takenParity v_beats v_out h_runHigh h_runBeats v_runs v_thrown, aI h_sending k_sending v_sending_n v_sending_a]) hx hb hts i_X9 tyX9_ok nmX9 hown hK hP hD hS 0 rfl rfl 23 (Nat.le_of_ble_eq_true rfl) f_94 rfl rfl (by decide +kernel) (nar_bI false) (fit_bI false) (Nat.le_of_ble_eq_true rfl) rfl dX9_send_155 (fun H locs hP hD hS => ?_)
        exact hret (v_sendingMany, v_emptyUp, false, v_sentCharacter, v_sentForm, x3, u2, v_sending_a) _ _ 158 _ hP hD hS hF dX9_send_158
    · replace hF := bt_f (bI_0 c1) hF
      exact hret (v_sendingMany, v_emptyUp, v_sends, v_sentCharacter, v_sentForm, v_sentBeat, true, v_sending_a) _ _ 106 _ hP hD hS hF dX9_send_106
  have J76 : ∀ (v_sendingMany : Int32) (v_emptyUp : Bool) (v_sends : Bool) (v_sentCharacter : Int32) (v_sentForm : Int32) (v_sentBeat : Int32) (v_senderHigh : Bool) (v_sending_a : Nat → Int32) (H : Heap) (locs : List Loc) (ls : Array Slot), F_X9_send_76 v_form v_sending_n v_sendingMany v_emptyUp v_sends v_sentCharacter v_sentForm v_sentBeat v_senderHigh v_sending_a = some u0 → lv_has ls 2 [(0, .ref h_)] → va_P D vwCl [oX9 h_ v_divisor v_clocks v_wanted v_rowsOn v_level v_form v_outputs v_byteKept v_ins v_changed h_received h_marks v_receivedMany v_overrun h_sending v_sendingMany v_emptyUp v_lateUp v_lateCount h_waveHigh h_waveBeats v_waveMany v_lineIn v_sends v_sentCharacter v_sentForm v_sentBeat v_senderHigh v_takes v_sawHigh v_takenForm v_takenBeat v_takenBits v_takenParity v_beats v_out h_runHigh h_runBeats v_runs v_thrown, aI h_sending k_sending v_sending_n v_sending_a] H → va_D A [oX9 h_ v_divisor v_clocks v_wanted v_rowsOn v_level v_form v_outputs v_byteKept v_ins v_changed h_received h_marks v_receivedMany v_overrun h_sending v_sendingMany v_emptyUp v_lateUp v_lateCount h_waveHigh h_waveBeats v_waveMany v_lineIn v_sends v_sentCharacter v_sentForm v_sentBeat v_senderHigh v_takes v_sawHigh v_takenForm v_takenBeat v_takenBits v_takenParity v_beats v_out h_runHigh h_runBeats v_runs v_thrown, aI h_sending k_sending v_sending_n v_sending_a] → va_S A s.heap H locs → W p l e { frames := 3, cells := 0, slots := 0, locals := 65 } s m args below meth c H locs 0 0 (QV below D [(k_sending, .int)] (wX9_send k_sending h_ h_received h_marks h_sending h_waveHigh h_waveBeats h_runHigh h_runBeats v_divisor v_clocks v_wanted v_rowsOn v_level v_form v_outputs v_byteKept v_ins v_changed v_receivedMany v_overrun v_lateUp v_lateCount v_waveMany v_lineIn v_takes v_sawHigh v_takenForm v_takenBeat v_takenBits v_takenParity v_beats v_out v_runs v_thrown v_sending_n u0) args s A) (F0 m 76 ls []) := by
    intro v_sendingMany v_emptyUp v_sends v_sentCharacter v_sentForm v_sentBeat v_senderHigh v_sending_a H locs ls hF hl hP hD hS
    unfold F_X9_send_76 at hF
    refine lv_aload_n hx hb dX9_send_76 rfl (lv_at hl 0 rfl) ?_
    refine lv_iconst (v := 1) hx hb dX9_send_77 (by decide) ?_
    refine pf (ci := 8) (v := .int (bI true)) (ty := .boolean) (C := RX9) (T := TX9) (N := 40) (ws' := [oX9 h_ v_divisor v_clocks v_wanted v_rowsOn v_level v_form v_outputs v_byteKept v_ins v_changed h_received h_marks v_receivedMany v_overrun h_sending v_sendingMany v_emptyUp v_lateUp v_lateCount h_waveHigh h_waveBeats v_waveMany v_lineIn true v_sentCharacter v_sentForm v_sentBeat v_senderHigh v_takes v_sawHigh v_takenForm v_takenBeat v_takenBits v_takenParity v_beats v_out h_runHigh h_runBeats v_runs v_thrown, aI h_sending k_sending v_sending_n v_sending_a]) hx hb hts i_X9 tyX9_ok nmX9 hown hK hP hD hS 0 rfl rfl 23 (Nat.le_of_ble_eq_true rfl) f_94 rfl rfl (by decide +kernel) (nar_bI true) (fit_bI true) (Nat.le_of_ble_eq_true rfl) rfl dX9_send_78 (fun H locs hP hD hS => ?_)
    refine lv_aload_n hx hb dX9_send_81 rfl (lv_at hl 0 rfl) ?_
    refine lv_aload_n hx hb dX9_send_82 rfl (lv_at hl 0 rfl) ?_
    refine va_get (D := D) (ci := 8) (v := .int v_form) (C := RX9) (T := TX9) (N := 40) hx hb hts i_X9 hown hK hP 0 rfl rfl 5 (Nat.le_of_ble_eq_true rfl) f_55 (fun _ h9 => h9) rfl dX9_send_83 ?_
    refine pf (ci := 8) (v := .int v_form) (ty := .int) (C := RX9) (T := TX9) (N := 40) (ws' := [oX9 h_ v_divisor v_clocks v_wanted v_rowsOn v_level v_form v_outputs v_byteKept v_ins v_changed h_received h_marks v_receivedMany v_overrun h_sending v_sendingMany v_emptyUp v_lateUp v_lateCount h_waveHigh h_waveBeats v_waveMany v_lineIn true v_sentCharacter v_form v_sentBeat v_senderHigh v_takes v_sawHigh v_takenForm v_takenBeat v_takenBits v_takenParity v_beats v_out h_runHigh h_runBeats v_runs v_thrown, aI h_sending k_sending v_sending_n v_sending_a]) hx hb hts i_X9 tyX9_ok nmX9 hown hK hP hD hS 0 rfl rfl 25 (Nat.le_of_ble_eq_true rfl) f_172 rfl rfl (by decide +kernel) rfl rfl (Nat.le_of_ble_eq_true rfl) rfl dX9_send_86 (fun H locs hP hD hS => ?_)
    refine lv_aload_n hx hb dX9_send_89 rfl (lv_at hl 0 rfl) ?_
    refine lv_iconst (v := 0) hx hb dX9_send_90 (by decide) ?_
    refine pf (ci := 8) (v := .int 0) (ty := .int) (C := RX9) (T := TX9) (N := 40) (ws' := [oX9 h_ v_divisor v_clocks v_wanted v_rowsOn v_level v_form v_outputs v_byteKept v_ins v_changed h_received h_marks v_receivedMany v_overrun h_sending v_sendingMany v_emptyUp v_lateUp v_lateCount h_waveHigh h_waveBeats v_waveMany v_lineIn true v_sentCharacter v_form 0 v_senderHigh v_takes v_sawHigh v_takenForm v_takenBeat v_takenBits v_takenParity v_beats v_out h_runHigh h_runBeats v_runs v_thrown, aI h_sending k_sending v_sending_n v_sending_a]) hx hb hts i_X9 tyX9_ok nmX9 hown hK hP hD hS 0 rfl rfl 26 (Nat.le_of_ble_eq_true rfl) f_175 rfl rfl (by decide +kernel) rfl rfl (Nat.le_of_ble_eq_true rfl) rfl dX9_send_91 (fun H locs hP hD hS => ?_)
    exact J94 v_sendingMany v_emptyUp true v_sentCharacter v_form 0 v_senderHigh v_sending_a _ _ _ hF hl hP hD hS
  have J36 : ∀ (n : Nat) (l1 : Int32) (v_sendingMany : Int32) (v_emptyUp : Bool) (v_sends : Bool) (v_sentCharacter : Int32) (v_sentForm : Int32) (v_sentBeat : Int32) (v_senderHigh : Bool) (v_sending_a : Nat → Int32) (H : Heap) (locs : List Loc) (ls : Array Slot), F_X9_send_36 v_form v_sending_n n l1 v_sendingMany v_emptyUp v_sends v_sentCharacter v_sentForm v_sentBeat v_senderHigh v_sending_a = some u0 → lv_has ls 2 [(0, .ref h_), (1, .int l1)] → va_P D vwCl [oX9 h_ v_divisor v_clocks v_wanted v_rowsOn v_level v_form v_outputs v_byteKept v_ins v_changed h_received h_marks v_receivedMany v_overrun h_sending v_sendingMany v_emptyUp v_lateUp v_lateCount h_waveHigh h_waveBeats v_waveMany v_lineIn v_sends v_sentCharacter v_sentForm v_sentBeat v_senderHigh v_takes v_sawHigh v_takenForm v_takenBeat v_takenBits v_takenParity v_beats v_out h_runHigh h_runBeats v_runs v_thrown, aI h_sending k_sending v_sending_n v_sending_a] H → va_D A [oX9 h_ v_divisor v_clocks v_wanted v_rowsOn v_level v_form v_outputs v_byteKept v_ins v_changed h_received h_marks v_receivedMany v_overrun h_sending v_sendingMany v_emptyUp v_lateUp v_lateCount h_waveHigh h_waveBeats v_waveMany v_lineIn v_sends v_sentCharacter v_sentForm v_sentBeat v_senderHigh v_takes v_sawHigh v_takenForm v_takenBeat v_takenBits v_takenParity v_beats v_out h_runHigh h_runBeats v_runs v_thrown, aI h_sending k_sending v_sending_n v_sending_a] → va_S A s.heap H locs → W p l e { frames := 3, cells := 0, slots := 0, locals := 65 } s m args below meth c H locs 0 0 (QV below D [(k_sending, .int)] (wX9_send k_sending h_ h_received h_marks h_sending h_waveHigh h_waveBeats h_runHigh h_runBeats v_divisor v_clocks v_wanted v_rowsOn v_level v_form v_outputs v_byteKept v_ins v_changed v_receivedMany v_overrun v_lateUp v_lateCount v_waveMany v_lineIn v_takes v_sawHigh v_takenForm v_takenBeat v_takenBits v_takenParity v_beats v_out v_runs v_thrown v_sending_n u0) args s A) (F0 m 36 ls []) := by
    intro n
    induction n with
    | zero =>
      intro l1 v_sendingMany v_emptyUp v_sends v_sentCharacter v_sentForm v_sentBeat v_senderHigh v_sending_a H locs ls hF hl hP hD hS
      have hF : (none : Option (Int32 × Bool × Bool × Int32 × Int32 × Int32 × Bool × (Nat → Int32))) = some u0 := hF
      cases hF
    | succ n ih =>
      intro l1 v_sendingMany v_emptyUp v_sends v_sentCharacter v_sentForm v_sentBeat v_senderHigh v_sending_a H locs ls hF hl hP hD hS
      replace hF : F_X9_send_36_s (F_X9_send_36 v_form v_sending_n n) v_form v_sending_n l1 v_sendingMany v_emptyUp v_sends v_sentCharacter v_sentForm v_sentBeat v_senderHigh v_sending_a = some u0 := hF
      unfold F_X9_send_36_s at hF
      refine lv_iload_n hx hb dX9_send_36 rfl (lv_at hl 1 rfl) ?_
      refine lv_aload_n hx hb dX9_send_37 rfl (lv_at hl 0 rfl) ?_
      refine va_get (D := D) (ci := 8) (v := .int v_sendingMany) (C := RX9) (T := TX9) (N := 40) hx hb hts i_X9 hown hK hP 0 rfl rfl 15 (Nat.le_of_ble_eq_true rfl) f_76 (fun _ h9 => h9) rfl dX9_send_38 ?_
      refine lv_icmp_ge (tgt := 64) hx hb dX9_send_41 (by decide) (fun c6 => ?_) (fun c6 => ?_)
      · replace hF := it_t c6 hF
        refine lv_aload_n hx hb dX9_send_64 rfl (lv_at hl 0 rfl) ?_
        refine va_get (D := D) (ci := 8) (v := .int v_sendingMany) (C := RX9) (T := TX9) (N := 40) hx hb hts i_X9 hown hK hP 0 rfl rfl 15 (Nat.le_of_ble_eq_true rfl) f_76 (fun _ h9 => h9) rfl dX9_send_65 ?_
        refine lv_if_ne (tgt := 76) hx hb dX9_send_68 (by decide) (fun c7 => ?_) (fun c7 => ?_)
        · replace hF := it_f c7 hF
          exact J76 v_sendingMany v_emptyUp v_sends v_sentCharacter v_sentForm v_sentBeat v_senderHigh v_sending_a _ _ _ hF (lv_sub hl [0] rfl) hP hD hS
        · replace hF := it_t c7 hF
          refine lv_aload_n hx hb dX9_send_71 rfl (lv_at hl 0 rfl) ?_
          refine lv_iconst (v := 1) hx hb dX9_send_72 (by decide) ?_
          refine pf (ci := 8) (v := .int (bI true)) (ty := .boolean) (C := RX9) (T := TX9) (N := 40) (ws' := [oX9 h_ v_divisor v_clocks v_wanted v_rowsOn v_level v_form v_outputs v_byteKept v_ins v_changed h_received h_marks v_receivedMany v_overrun h_sending v_sendingMany true v_lateUp v_lateCount h_waveHigh h_waveBeats v_waveMany v_lineIn v_sends v_sentCharacter v_sentForm v_sentBeat v_senderHigh v_takes v_sawHigh v_takenForm v_takenBeat v_takenBits v_takenParity v_beats v_out h_runHigh h_runBeats v_runs v_thrown, aI h_sending k_sending v_sending_n v_sending_a]) hx hb hts i_X9 tyX9_ok nmX9 hown hK hP hD hS 0 rfl rfl 16 (Nat.le_of_ble_eq_true rfl) f_79 rfl rfl (by decide +kernel) (nar_bI true) (fit_bI true) (Nat.le_of_ble_eq_true rfl) rfl dX9_send_73 (fun H locs hP hD hS => ?_)
          exact J76 v_sendingMany true v_sends v_sentCharacter v_sentForm v_sentBeat v_senderHigh v_sending_a _ _ _ hF (lv_sub hl [0] rfl) hP hD hS
      · replace hF := it_f c6 hF
        refine lv_aload_n hx hb dX9_send_44 rfl (lv_at hl 0 rfl) ?_
        refine va_get (D := D) (ci := 8) (v := .ref h_sending) (C := RX9) (T := TX9) (N := 40) hx hb hts i_X9 hown hK hP 0 rfl rfl 14 (Nat.le_of_ble_eq_true rfl) f_16 (fun _ h9 => h9) rfl dX9_send_45 ?_
        refine lv_iload_n hx hb dX9_send_48 rfl (lv_at hl 1 rfl) ?_
        refine lv_aload_n hx hb dX9_send_49 rfl (lv_at hl 0 rfl) ?_
        refine va_get (D := D) (ci := 8) (v := .ref h_sending) (C := RX9) (T := TX9) (N := 40) hx hb hts i_X9 hown hK hP 0 rfl rfl 14 (Nat.le_of_ble_eq_true rfl) f_16 (fun _ h9 => h9) rfl dX9_send_50 ?_
        refine lv_iload_n hx hb dX9_send_53 rfl (lv_at hl 1 rfl) ?_
        refine lv_iconst (v := 1) hx hb dX9_send_54 (by decide) ?_
        refine lv_iadd hx hb dX9_send_55 ?_
        obtain ⟨g8, hF⟩ := gd_el hF
        refine va_iald hx hb hK hP 1 0 rfl rfl (inR_in g8) dX9_send_56 ?_
        obtain ⟨g9, hF⟩ := gd_el hF
        refine ias (ws' := [oX9 h_ v_divisor v_clocks v_wanted v_rowsOn v_level v_form v_outputs v_byteKept v_ins v_changed h_received h_marks v_receivedMany v_overrun h_sending v_sendingMany v_emptyUp v_lateUp v_lateCount h_waveHigh h_waveBeats v_waveMany v_lineIn v_sends v_sentCharacter v_sentForm v_sentBeat v_senderHigh v_takes v_sawHigh v_takenForm v_takenBeat v_takenBits v_takenParity v_beats v_out h_runHigh h_runBeats v_runs v_thrown, aI h_sending k_sending v_sending_n (upd v_sending_a (l1.toNatClampNeg) (v_sending_a (l1 + 1).toNatClampNeg))]) hx hb hK hP hD hS 1 0 rfl rfl g9 rfl dX9_send_57 (fun H locs hP hD hS => ?_)
        obtain ⟨x10, ex10⟩ : ∃ y : Int32, y = l1 + 1 := ⟨_, rfl⟩
        replace hF := lt1_x ex10 hF
        refine lv_iinc (v := x10) (lv' := [(1, .int x10), (0, .ref h_)]) hx hb dX9_send_58 hl (k := 1) rfl (by rw [ex10]; rfl) (Nat.le_of_ble_eq_true rfl) rfl (fun ls hl => ?_)
        refine lv_goto (tgt := 36) hx hb dX9_send_61 (by decide) ?_
        exact ih x10 v_sendingMany v_emptyUp v_sends v_sentCharacter v_sentForm v_sentBeat v_senderHigh (upd v_sending_a (l1.toNatClampNeg) (v_sending_a (l1 + 1).toNatClampNeg)) _ _ _ hF (lv_sub hl [1, 0] rfl) hP hD hS
  unfold F_X9_send at hF
  refine lv_aload_n hx hb dX9_send_0 rfl (lv_at hl 0 rfl) ?_
  refine va_get (D := D) (ci := 8) (v := .int (bI v_sends)) (C := RX9) (T := TX9) (N := 40) hx hb hts i_X9 hown hK hP 0 rfl rfl 23 (Nat.le_of_ble_eq_true rfl) f_94 (fun _ h9 => h9) rfl dX9_send_1 ?_
  refine lv_if_ne (tgt := 94) hx hb dX9_send_4 (by decide) (fun c11 => ?_) (fun c11 => ?_)
  · replace hF := bt_t (bI_n0 c11) hF
    exact J94 v_sendingMany v_emptyUp v_sends v_sentCharacter v_sentForm v_sentBeat v_senderHigh v_sending_a _ _ _ hF hl hP hD hS
  · replace hF := bt_f (bI_0 c11) hF
    refine lv_aload_n hx hb dX9_send_7 rfl (lv_at hl 0 rfl) ?_
    refine va_get (D := D) (ci := 8) (v := .int v_sendingMany) (C := RX9) (T := TX9) (N := 40) hx hb hts i_X9 hown hK hP 0 rfl rfl 15 (Nat.le_of_ble_eq_true rfl) f_76 (fun _ h9 => h9) rfl dX9_send_8 ?_
    refine lv_if_le (tgt := 94) hx hb dX9_send_11 (by decide) (fun c12 => ?_) (fun c12 => ?_)
    · replace hF := it_t c12 hF
      exact J94 v_sendingMany v_emptyUp v_sends v_sentCharacter v_sentForm v_sentBeat v_senderHigh v_sending_a _ _ _ hF hl hP hD hS
    · replace hF := it_f c12 hF
      refine lv_aload_n hx hb dX9_send_14 rfl (lv_at hl 0 rfl) ?_
      refine lv_aload_n hx hb dX9_send_15 rfl (lv_at hl 0 rfl) ?_
      refine va_get (D := D) (ci := 8) (v := .ref h_sending) (C := RX9) (T := TX9) (N := 40) hx hb hts i_X9 hown hK hP 0 rfl rfl 14 (Nat.le_of_ble_eq_true rfl) f_16 (fun _ h9 => h9) rfl dX9_send_16 ?_
      refine lv_iconst (v := 0) hx hb dX9_send_19 (by decide) ?_
      obtain ⟨g13, hF⟩ := gd_el hF
      refine va_iald hx hb hK hP 1 0 rfl rfl (inR_in g13) dX9_send_20 ?_
      refine lv_topi (fun x14 ex14 => ?_)
      replace hF := lt1_x ex14 hF
      refine pf (ci := 8) (v := .int x14) (ty := .int) (C := RX9) (T := TX9) (N := 40) (ws' := [oX9 h_ v_divisor v_clocks v_wanted v_rowsOn v_level v_form v_outputs v_byteKept v_ins v_changed h_received h_marks v_receivedMany v_overrun h_sending v_sendingMany v_emptyUp v_lateUp v_lateCount h_waveHigh h_waveBeats v_waveMany v_lineIn v_sends x14 v_sentForm v_sentBeat v_senderHigh v_takes v_sawHigh v_takenForm v_takenBeat v_takenBits v_takenParity v_beats v_out h_runHigh h_runBeats v_runs v_thrown, aI h_sending k_sending v_sending_n v_sending_a]) hx hb hts i_X9 tyX9_ok nmX9 hown hK hP hD hS 0 rfl rfl 24 (Nat.le_of_ble_eq_true rfl) f_169 rfl rfl (by decide +kernel) rfl rfl (Nat.le_of_ble_eq_true rfl) rfl dX9_send_21 (fun H locs hP hD hS => ?_)
      refine lv_aload_n hx hb dX9_send_24 rfl (lv_at hl 0 rfl) ?_
      refine lv_dup hx hb dX9_send_25 rfl ?_
      refine va_get (D := D) (ci := 8) (v := .int v_sendingMany) (C := RX9) (T := TX9) (N := 40) hx hb hts i_X9 hown hK hP 0 rfl rfl 15 (Nat.le_of_ble_eq_true rfl) f_76 (fun _ h9 => h9) rfl dX9_send_26 ?_
      refine lv_iconst (v := 1) hx hb dX9_send_29 (by decide) ?_
      refine lv_isub hx hb dX9_send_30 ?_
      refine lv_topi (fun x15 ex15 => ?_)
      replace hF := lt1_x ex15 hF
      refine pf (ci := 8) (v := .int x15) (ty := .int) (C := RX9) (T := TX9) (N := 40) (ws' := [oX9 h_ v_divisor v_clocks v_wanted v_rowsOn v_level v_form v_outputs v_byteKept v_ins v_changed h_received h_marks v_receivedMany v_overrun h_sending x15 v_emptyUp v_lateUp v_lateCount h_waveHigh h_waveBeats v_waveMany v_lineIn v_sends x14 v_sentForm v_sentBeat v_senderHigh v_takes v_sawHigh v_takenForm v_takenBeat v_takenBits v_takenParity v_beats v_out h_runHigh h_runBeats v_runs v_thrown, aI h_sending k_sending v_sending_n v_sending_a]) hx hb hts i_X9 tyX9_ok nmX9 hown hK hP hD hS 0 rfl rfl 15 (Nat.le_of_ble_eq_true rfl) f_76 rfl rfl (by decide +kernel) rfl rfl (Nat.le_of_ble_eq_true rfl) rfl dX9_send_31 (fun H locs hP hD hS => ?_)
      refine lv_iconst (v := 0) hx hb dX9_send_34 (by decide) ?_
      refine lv_istore_n (lv' := [(1, .int 0), (0, .ref h_)]) hx hb dX9_send_35 rfl hl (Nat.le_of_ble_eq_true rfl) rfl (fun ls hl => ?_)
      exact J36 100000 0 x15 v_emptyUp v_sends x14 v_sentForm v_sentBeat v_senderHigh v_sending_a _ _ _ hF (lv_sub hl [1, 0] rfl) hP hD hS
def F_X9_say_49 (v_runHigh_n : Nat) (v_runBeats_n : Nat) (l1 : Bool) (v_out : Bool) (v_runs : Int32) (v_runHigh_a : Nat → Bool) (v_runBeats_a : Nat → Int32) : Option (Bool × Int32 × (Nat → Bool) × (Nat → Int32)) := gd (inR (v_runs - v_runs / 40 * 40) v_runHigh_n = true) (gd (inR (v_runs - v_runs / 40 * 40) v_runBeats_n = true) (lt1 (v_runs + 1) (fun x3 => some (v_out, x3, va_up v_runHigh_a ((v_runs - v_runs / 40 * 40).toNatClampNeg) l1, upd v_runBeats_a ((v_runs - v_runs / 40 * 40).toNatClampNeg) 1))))
def F_X9_say (p1 : Bool) (v_out : Bool) (v_runs : Int32) (v_runHigh_n : Nat) (v_runHigh_a : Nat → Bool) (v_runBeats_n : Nat) (v_runBeats_a : Nat → Int32) : Option (Bool × Int32 × (Nat → Bool) × (Nat → Int32)) := if v_runs ≤ 0 then (F_X9_say_49 v_runHigh_n v_runBeats_n p1 p1 v_runs v_runHigh_a v_runBeats_a) else (gd (inR ((v_runs - 1) - (v_runs - 1) / 40 * 40) v_runHigh_n = true) (if (bI (v_runHigh_a ((v_runs - 1) - (v_runs - 1) / 40 * 40).toNatClampNeg)) = (bI p1) then (gd (inR ((v_runs - 1) - (v_runs - 1) / 40 * 40) v_runBeats_n = true) (gd (inR ((v_runs - 1) - (v_runs - 1) / 40 * 40) v_runBeats_n = true) (some (p1, v_runs, v_runHigh_a, upd v_runBeats_a (((v_runs - 1) - (v_runs - 1) / 40 * 40).toNatClampNeg) ((v_runBeats_a ((v_runs - 1) - (v_runs - 1) / 40 * 40).toNatClampNeg) + 1))))) else (F_X9_say_49 v_runHigh_n v_runBeats_n p1 p1 v_runs v_runHigh_a v_runBeats_a)))
def wX9_say (k_runHigh : ClassId) (k_runBeats : ClassId) (h_ : Nat) (h_received : Nat) (h_marks : Nat) (h_sending : Nat) (h_waveHigh : Nat) (h_waveBeats : Nat) (h_runHigh : Nat) (h_runBeats : Nat) (v_divisor : Int32) (v_clocks : Int32) (v_wanted : Int32) (v_rowsOn : Bool) (v_level : Int32) (v_form : Int32) (v_outputs : Int32) (v_byteKept : Int32) (v_ins : Int32) (v_changed : Int32) (v_receivedMany : Int32) (v_overrun : Bool) (v_sendingMany : Int32) (v_emptyUp : Bool) (v_lateUp : Bool) (v_lateCount : Int32) (v_waveMany : Int32) (v_lineIn : Bool) (v_sends : Bool) (v_sentCharacter : Int32) (v_sentForm : Int32) (v_sentBeat : Int32) (v_senderHigh : Bool) (v_takes : Bool) (v_sawHigh : Bool) (v_takenForm : Int32) (v_takenBeat : Int32) (v_takenBits : Int32) (v_takenParity : Int32) (v_beats : Int32) (v_thrown : Int32) (v_runHigh_n : Nat) (v_runBeats_n : Nat) (u : Bool × Int32 × (Nat → Bool) × (Nat → Int32)) : va_W := [oX9 h_ v_divisor v_clocks v_wanted v_rowsOn v_level v_form v_outputs v_byteKept v_ins v_changed h_received h_marks v_receivedMany v_overrun h_sending v_sendingMany v_emptyUp v_lateUp v_lateCount h_waveHigh h_waveBeats v_waveMany v_lineIn v_sends v_sentCharacter v_sentForm v_sentBeat v_senderHigh v_takes v_sawHigh v_takenForm v_takenBeat v_takenBits v_takenParity v_beats u.1 h_runHigh h_runBeats u.2.1 v_thrown, aZ h_runHigh k_runHigh v_runHigh_n u.2.2.1, aI h_runBeats k_runBeats v_runBeats_n u.2.2.2]
set_option maxHeartbeats 4000000 in
set_option maxRecDepth 100000 in
theorem mX9_say {l : Launch} (D : va_G) (k_runHigh : ClassId) (k_runBeats : ClassId) (h_ : Nat) (h_received : Nat) (h_marks : Nat) (h_sending : Nat) (h_waveHigh : Nat) (h_waveBeats : Nat) (h_runHigh : Nat) (h_runBeats : Nat) (v_divisor : Int32) (v_clocks : Int32) (v_wanted : Int32) (v_rowsOn : Bool) (v_level : Int32) (v_form : Int32) (v_outputs : Int32) (v_byteKept : Int32) (v_ins : Int32) (v_changed : Int32) (v_receivedMany : Int32) (v_overrun : Bool) (v_sendingMany : Int32) (v_emptyUp : Bool) (v_lateUp : Bool) (v_lateCount : Int32) (v_waveMany : Int32) (v_lineIn : Bool) (v_sends : Bool) (v_sentCharacter : Int32) (v_sentForm : Int32) (v_sentBeat : Int32) (v_senderHigh : Bool) (v_takes : Bool) (v_sawHigh : Bool) (v_takenForm : Int32) (v_takenBeat : Int32) (v_takenBits : Int32) (v_takenParity : Int32) (v_beats : Int32) (v_out : Bool) (v_runs : Int32) (v_thrown : Int32) (v_runHigh_n : Nat) (v_runHigh_a : Nat → Bool) (v_runBeats_n : Nat) (v_runBeats_a : Nat → Int32) (p1 : Bool) (u0 : Bool × Int32 × (Nat → Bool) × (Nat → Int32)) (hF : F_X9_say p1 v_out v_runs v_runHigh_n v_runHigh_a v_runBeats_n v_runBeats_a = some u0) : MV l yX9_say wsX9_say { frames := 0, cells := 0, slots := 0, locals := 0 } D [(k_runHigh, .boolean), (k_runBeats, .int)] [.ref h_, .int (bI p1)] [oX9 h_ v_divisor v_clocks v_wanted v_rowsOn v_level v_form v_outputs v_byteKept v_ins v_changed h_received h_marks v_receivedMany v_overrun h_sending v_sendingMany v_emptyUp v_lateUp v_lateCount h_waveHigh h_waveBeats v_waveMany v_lineIn v_sends v_sentCharacter v_sentForm v_sentBeat v_senderHigh v_takes v_sawHigh v_takenForm v_takenBeat v_takenBits v_takenParity v_beats v_out h_runHigh h_runBeats v_runs v_thrown, aZ h_runHigh k_runHigh v_runHigh_n v_runHigh_a, aI h_runBeats k_runBeats v_runBeats_n v_runBeats_a] (wX9_say k_runHigh k_runBeats h_ h_received h_marks h_sending h_waveHigh h_waveBeats h_runHigh h_runBeats v_divisor v_clocks v_wanted v_rowsOn v_level v_form v_outputs v_byteKept v_ins v_changed v_receivedMany v_overrun v_sendingMany v_emptyUp v_lateUp v_lateCount v_waveMany v_lineIn v_sends v_sentCharacter v_sentForm v_sentBeat v_senderHigh v_takes v_sawHigh v_takenForm v_takenBeat v_takenBits v_takenParity v_beats v_thrown v_runHigh_n v_runBeats_n u0) := by
  refine MV.ofW (cc := cX9_say) (maxL := 2) (ret := none) (lv := [(0, .ref h_), (1, .int (bI p1))]) (by decide +kernel) rfl (Nat.le_of_ble_eq_true rfl) rfl ?_
  intro p e s m args below meth c A ls hx hb hr hml hts hown hlocks hA hK hP hD hS hl
  replace hown : s.vm.findClass RX9 = some m.cls := hown
  have i_X9 : ∀ w ∈ wsX90, w ∈ wsX9_say := by decide +kernel
  have f_26 := hts (.fieldLink RX9 26 "SerialPortModel" "runHigh" "[Z") (by decide +kernel)
  have f_29 := hts (.fieldLink RX9 29 "SerialPortModel" "runBeats" "[I") (by decide +kernel)
  have f_109 := hts (.fieldLink RX9 109 "SerialPortModel" "out" "Z") (by decide +kernel)
  have f_112 := hts (.fieldLink RX9 112 "SerialPortModel" "runs" "I") (by decide +kernel)
  have hret : ∀ (u : Bool × Int32 × (Nat → Bool) × (Nat → Int32)) (H : Heap) (locs : List Loc) (pc : Nat) (ls : Array Slot), va_P D vwCl (wX9_say k_runHigh k_runBeats h_ h_received h_marks h_sending h_waveHigh h_waveBeats h_runHigh h_runBeats v_divisor v_clocks v_wanted v_rowsOn v_level v_form v_outputs v_byteKept v_ins v_changed v_receivedMany v_overrun v_sendingMany v_emptyUp v_lateUp v_lateCount v_waveMany v_lineIn v_sends v_sentCharacter v_sentForm v_sentBeat v_senderHigh v_takes v_sawHigh v_takenForm v_takenBeat v_takenBits v_takenParity v_beats v_thrown v_runHigh_n v_runBeats_n u) H → va_D A (wX9_say k_runHigh k_runBeats h_ h_received h_marks h_sending h_waveHigh h_waveBeats h_runHigh h_runBeats v_divisor v_clocks v_wanted v_rowsOn v_level v_form v_outputs v_byteKept v_ins v_changed v_receivedMany v_overrun v_sendingMany v_emptyUp v_lateUp v_lateCount v_waveMany v_lineIn v_sends v_sentCharacter v_sentForm v_sentBeat v_senderHigh v_takes v_sawHigh v_takenForm v_takenBeat v_takenBits v_takenParity v_beats v_thrown v_runHigh_n v_runBeats_n u) → va_S A s.heap H locs → some u = some u0 → decode cX9_say pc = .ok (.return_, 1) → W p l e { frames := 0, cells := 0, slots := 0, locals := 0 } s m args below meth c H locs 0 0 (QV below D [(k_runHigh, .boolean), (k_runBeats, .int)] (wX9_say k_runHigh k_runBeats h_ h_received h_marks h_sending h_waveHigh h_waveBeats h_runHigh h_runBeats v_divisor v_clocks v_wanted v_rowsOn v_level v_form v_outputs v_byteKept v_ins v_changed v_receivedMany v_overrun v_sendingMany v_emptyUp v_lateUp v_lateCount v_waveMany v_lineIn v_sends v_sentCharacter v_sentForm v_sentBeat v_senderHigh v_takes v_sawHigh v_takenForm v_takenBeat v_takenBits v_takenParity v_beats v_thrown v_runHigh_n v_runBeats_n u0) args s A) (F0 m pc ls []) := fun u H locs pc ls h1 h2 h3 h4 h5 => rV (wf := wX9_say k_runHigh k_runBeats h_ h_received h_marks h_sending h_waveHigh h_waveBeats h_runHigh h_runBeats v_divisor v_clocks v_wanted v_rowsOn v_level v_form v_outputs v_byteKept v_ins v_changed v_receivedMany v_overrun v_sendingMany v_emptyUp v_lateUp v_lateCount v_waveMany v_lineIn v_sends v_sentCharacter v_sentForm v_sentBeat v_senderHigh v_takes v_sawHigh v_takenForm v_takenBeat v_takenBits v_takenParity v_beats v_thrown v_runHigh_n v_runBeats_n) hx hb hr hlocks hK h1 h2 h3 h4 h5
  have J49 : ∀ (l1 : Bool) (v_out : Bool) (v_runs : Int32) (v_runHigh_a : Nat → Bool) (v_runBeats_a : Nat → Int32) (H : Heap) (locs : List Loc) (ls : Array Slot), F_X9_say_49 v_runHigh_n v_runBeats_n l1 v_out v_runs v_runHigh_a v_runBeats_a = some u0 → lv_has ls 2 [(0, .ref h_), (1, .int (bI l1))] → va_P D vwCl [oX9 h_ v_divisor v_clocks v_wanted v_rowsOn v_level v_form v_outputs v_byteKept v_ins v_changed h_received h_marks v_receivedMany v_overrun h_sending v_sendingMany v_emptyUp v_lateUp v_lateCount h_waveHigh h_waveBeats v_waveMany v_lineIn v_sends v_sentCharacter v_sentForm v_sentBeat v_senderHigh v_takes v_sawHigh v_takenForm v_takenBeat v_takenBits v_takenParity v_beats v_out h_runHigh h_runBeats v_runs v_thrown, aZ h_runHigh k_runHigh v_runHigh_n v_runHigh_a, aI h_runBeats k_runBeats v_runBeats_n v_runBeats_a] H → va_D A [oX9 h_ v_divisor v_clocks v_wanted v_rowsOn v_level v_form v_outputs v_byteKept v_ins v_changed h_received h_marks v_receivedMany v_overrun h_sending v_sendingMany v_emptyUp v_lateUp v_lateCount h_waveHigh h_waveBeats v_waveMany v_lineIn v_sends v_sentCharacter v_sentForm v_sentBeat v_senderHigh v_takes v_sawHigh v_takenForm v_takenBeat v_takenBits v_takenParity v_beats v_out h_runHigh h_runBeats v_runs v_thrown, aZ h_runHigh k_runHigh v_runHigh_n v_runHigh_a, aI h_runBeats k_runBeats v_runBeats_n v_runBeats_a] → va_S A s.heap H locs → W p l e { frames := 0, cells := 0, slots := 0, locals := 0 } s m args below meth c H locs 0 0 (QV below D [(k_runHigh, .boolean), (k_runBeats, .int)] (wX9_say k_runHigh k_runBeats h_ h_received h_marks h_sending h_waveHigh h_waveBeats h_runHigh h_runBeats v_divisor v_clocks v_wanted v_rowsOn v_level v_form v_outputs v_byteKept v_ins v_changed v_receivedMany v_overrun v_sendingMany v_emptyUp v_lateUp v_lateCount v_waveMany v_lineIn v_sends v_sentCharacter v_sentForm v_sentBeat v_senderHigh v_takes v_sawHigh v_takenForm v_takenBeat v_takenBits v_takenParity v_beats v_thrown v_runHigh_n v_runBeats_n u0) args s A) (F0 m 49 ls []) := by
    intro l1 v_out v_runs v_runHigh_a v_runBeats_a H locs ls hF hl hP hD hS
    unfold F_X9_say_49 at hF
    refine lv_aload_n hx hb dX9_say_49 rfl (lv_at hl 0 rfl) ?_
    refine va_get (D := D) (ci := 8) (v := .ref h_runHigh) (C := RX9) (T := TX9) (N := 40) hx hb hts i_X9 hown hK hP 0 rfl rfl 36 (Nat.le_of_ble_eq_true rfl) f_26 (fun _ h9 => h9) rfl dX9_say_50 ?_
    refine lv_aload_n hx hb dX9_say_53 rfl (lv_at hl 0 rfl) ?_
    refine va_get (D := D) (ci := 8) (v := .int v_runs) (C := RX9) (T := TX9) (N := 40) hx hb hts i_X9 hown hK hP 0 rfl rfl 38 (Nat.le_of_ble_eq_true rfl) f_112 (fun _ h9 => h9) rfl dX9_say_54 ?_
    refine lv_bipush (v := 40) hx hb dX9_say_57 (by decide) ?_
    refine lv_irem hx hb dX9_say_59 (by decide) ?_
    refine lv_iload_n hx hb dX9_say_60 rfl (lv_at hl 1 rfl) ?_
    obtain ⟨g1, hF⟩ := gd_el hF
    refine zas (x := l1) (ws' := [oX9 h_ v_divisor v_clocks v_wanted v_rowsOn v_level v_form v_outputs v_byteKept v_ins v_changed h_received h_marks v_receivedMany v_overrun h_sending v_sendingMany v_emptyUp v_lateUp v_lateCount h_waveHigh h_waveBeats v_waveMany v_lineIn v_sends v_sentCharacter v_sentForm v_sentBeat v_senderHigh v_takes v_sawHigh v_takenForm v_takenBeat v_takenBits v_takenParity v_beats v_out h_runHigh h_runBeats v_runs v_thrown, aZ h_runHigh k_runHigh v_runHigh_n (va_up v_runHigh_a ((v_runs - v_runs / 40 * 40).toNatClampNeg) l1), aI h_runBeats k_runBeats v_runBeats_n v_runBeats_a]) hx hb hK hP hD hS 1 0 rfl rfl rfl g1 rfl dX9_say_61 (fun H locs hP hD hS => ?_)
    refine lv_aload_n hx hb dX9_say_62 rfl (lv_at hl 0 rfl) ?_
    refine va_get (D := D) (ci := 8) (v := .ref h_runBeats) (C := RX9) (T := TX9) (N := 40) hx hb hts i_X9 hown hK hP 0 rfl rfl 37 (Nat.le_of_ble_eq_true rfl) f_29 (fun _ h9 => h9) rfl dX9_say_63 ?_
    refine lv_aload_n hx hb dX9_say_66 rfl (lv_at hl 0 rfl) ?_
    refine va_get (D := D) (ci := 8) (v := .int v_runs) (C := RX9) (T := TX9) (N := 40) hx hb hts i_X9 hown hK hP 0 rfl rfl 38 (Nat.le_of_ble_eq_true rfl) f_112 (fun _ h9 => h9) rfl dX9_say_67 ?_
    refine lv_bipush (v := 40) hx hb dX9_say_70 (by decide) ?_
    refine lv_irem hx hb dX9_say_72 (by decide) ?_
    refine lv_iconst (v := 1) hx hb dX9_say_73 (by decide) ?_
    obtain ⟨g2, hF⟩ := gd_el hF
    refine ias (ws' := [oX9 h_ v_divisor v_clocks v_wanted v_rowsOn v_level v_form v_outputs v_byteKept v_ins v_changed h_received h_marks v_receivedMany v_overrun h_sending v_sendingMany v_emptyUp v_lateUp v_lateCount h_waveHigh h_waveBeats v_waveMany v_lineIn v_sends v_sentCharacter v_sentForm v_sentBeat v_senderHigh v_takes v_sawHigh v_takenForm v_takenBeat v_takenBits v_takenParity v_beats v_out h_runHigh h_runBeats v_runs v_thrown, aZ h_runHigh k_runHigh v_runHigh_n (va_up v_runHigh_a ((v_runs - v_runs / 40 * 40).toNatClampNeg) l1), aI h_runBeats k_runBeats v_runBeats_n (upd v_runBeats_a ((v_runs - v_runs / 40 * 40).toNatClampNeg) 1)]) hx hb hK hP hD hS 2 1 rfl rfl g2 rfl dX9_say_74 (fun H locs hP hD hS => ?_)
    refine lv_aload_n hx hb dX9_say_75 rfl (lv_at hl 0 rfl) ?_
    refine lv_dup hx hb dX9_say_76 rfl ?_
    refine va_get (D := D) (ci := 8) (v := .int v_runs) (C := RX9) (T := TX9) (N := 40) hx hb hts i_X9 hown hK hP 0 rfl rfl 38 (Nat.le_of_ble_eq_true rfl) f_112 (fun _ h9 => h9) rfl dX9_say_77 ?_
    refine lv_iconst (v := 1) hx hb dX9_say_80 (by decide) ?_
    refine lv_iadd hx hb dX9_say_81 ?_
    refine lv_topi (fun x3 ex3 => ?_)
    replace hF := lt1_x ex3 hF
    refine pf (ci := 8) (v := .int x3) (ty := .int) (C := RX9) (T := TX9) (N := 40) (ws' := [oX9 h_ v_divisor v_clocks v_wanted v_rowsOn v_level v_form v_outputs v_byteKept v_ins v_changed h_received h_marks v_receivedMany v_overrun h_sending v_sendingMany v_emptyUp v_lateUp v_lateCount h_waveHigh h_waveBeats v_waveMany v_lineIn v_sends v_sentCharacter v_sentForm v_sentBeat v_senderHigh v_takes v_sawHigh v_takenForm v_takenBeat v_takenBits v_takenParity v_beats v_out h_runHigh h_runBeats x3 v_thrown, aZ h_runHigh k_runHigh v_runHigh_n (va_up v_runHigh_a ((v_runs - v_runs / 40 * 40).toNatClampNeg) l1), aI h_runBeats k_runBeats v_runBeats_n (upd v_runBeats_a ((v_runs - v_runs / 40 * 40).toNatClampNeg) 1)]) hx hb hts i_X9 tyX9_ok nmX9 hown hK hP hD hS 0 rfl rfl 38 (Nat.le_of_ble_eq_true rfl) f_112 rfl rfl (by decide +kernel) rfl rfl (Nat.le_of_ble_eq_true rfl) rfl dX9_say_82 (fun H locs hP hD hS => ?_)
    exact hret (v_out, x3, va_up v_runHigh_a ((v_runs - v_runs / 40 * 40).toNatClampNeg) l1, upd v_runBeats_a ((v_runs - v_runs / 40 * 40).toNatClampNeg) 1) _ _ 85 _ hP hD hS hF dX9_say_85
  unfold F_X9_say at hF
  refine lv_aload_n hx hb dX9_say_0 rfl (lv_at hl 0 rfl) ?_
  refine lv_iload_n hx hb dX9_say_1 rfl (lv_at hl 1 rfl) ?_
  refine pf (ci := 8) (v := .int (bI p1)) (ty := .boolean) (C := RX9) (T := TX9) (N := 40) (ws' := [oX9 h_ v_divisor v_clocks v_wanted v_rowsOn v_level v_form v_outputs v_byteKept v_ins v_changed h_received h_marks v_receivedMany v_overrun h_sending v_sendingMany v_emptyUp v_lateUp v_lateCount h_waveHigh h_waveBeats v_waveMany v_lineIn v_sends v_sentCharacter v_sentForm v_sentBeat v_senderHigh v_takes v_sawHigh v_takenForm v_takenBeat v_takenBits v_takenParity v_beats p1 h_runHigh h_runBeats v_runs v_thrown, aZ h_runHigh k_runHigh v_runHigh_n v_runHigh_a, aI h_runBeats k_runBeats v_runBeats_n v_runBeats_a]) hx hb hts i_X9 tyX9_ok nmX9 hown hK hP hD hS 0 rfl rfl 35 (Nat.le_of_ble_eq_true rfl) f_109 rfl rfl (by decide +kernel) (nar_bI p1) (fit_bI p1) (Nat.le_of_ble_eq_true rfl) rfl dX9_say_2 (fun H locs hP hD hS => ?_)
  refine lv_aload_n hx hb dX9_say_5 rfl (lv_at hl 0 rfl) ?_
  refine va_get (D := D) (ci := 8) (v := .int v_runs) (C := RX9) (T := TX9) (N := 40) hx hb hts i_X9 hown hK hP 0 rfl rfl 38 (Nat.le_of_ble_eq_true rfl) f_112 (fun _ h9 => h9) rfl dX9_say_6 ?_
  refine lv_if_le (tgt := 49) hx hb dX9_say_9 (by decide) (fun c4 => ?_) (fun c4 => ?_)
  · replace hF := it_t c4 hF
    exact J49 p1 p1 v_runs v_runHigh_a v_runBeats_a _ _ _ hF hl hP hD hS
  · replace hF := it_f c4 hF
    refine lv_aload_n hx hb dX9_say_12 rfl (lv_at hl 0 rfl) ?_
    refine va_get (D := D) (ci := 8) (v := .ref h_runHigh) (C := RX9) (T := TX9) (N := 40) hx hb hts i_X9 hown hK hP 0 rfl rfl 36 (Nat.le_of_ble_eq_true rfl) f_26 (fun _ h9 => h9) rfl dX9_say_13 ?_
    refine lv_aload_n hx hb dX9_say_16 rfl (lv_at hl 0 rfl) ?_
    refine va_get (D := D) (ci := 8) (v := .int v_runs) (C := RX9) (T := TX9) (N := 40) hx hb hts i_X9 hown hK hP 0 rfl rfl 38 (Nat.le_of_ble_eq_true rfl) f_112 (fun _ h9 => h9) rfl dX9_say_17 ?_
    refine lv_iconst (v := 1) hx hb dX9_say_20 (by decide) ?_
    refine lv_isub hx hb dX9_say_21 ?_
    refine lv_bipush (v := 40) hx hb dX9_say_22 (by decide) ?_
    refine lv_irem hx hb dX9_say_24 (by decide) ?_
    obtain ⟨g5, hF⟩ := gd_el hF
    refine va_zald hx hb hK hP 1 0 rfl rfl (inR_in g5) dX9_say_25 ?_
    refine W.eq (g2 := F0 m 26 ls [.int (bI (v_runHigh_a ((v_runs - 1) - (v_runs - 1) / 40 * 40).toNatClampNeg))]) rfl ?_
    refine lv_iload_n hx hb dX9_say_26 rfl (lv_at hl 1 rfl) ?_
    refine lv_icmp_ne (tgt := 49) hx hb dX9_say_27 (by decide) (fun c6 => ?_) (fun c6 => ?_)
    · replace hF := it_f c6 hF
      exact J49 p1 p1 v_runs v_runHigh_a v_runBeats_a _ _ _ hF hl hP hD hS
    · replace hF := it_t c6 hF
      refine lv_aload_n hx hb dX9_say_30 rfl (lv_at hl 0 rfl) ?_
      refine va_get (D := D) (ci := 8) (v := .ref h_runBeats) (C := RX9) (T := TX9) (N := 40) hx hb hts i_X9 hown hK hP 0 rfl rfl 37 (Nat.le_of_ble_eq_true rfl) f_29 (fun _ h9 => h9) rfl dX9_say_31 ?_
      refine lv_aload_n hx hb dX9_say_34 rfl (lv_at hl 0 rfl) ?_
      refine va_get (D := D) (ci := 8) (v := .int v_runs) (C := RX9) (T := TX9) (N := 40) hx hb hts i_X9 hown hK hP 0 rfl rfl 38 (Nat.le_of_ble_eq_true rfl) f_112 (fun _ h9 => h9) rfl dX9_say_35 ?_
      refine lv_iconst (v := 1) hx hb dX9_say_38 (by decide) ?_
      refine lv_isub hx hb dX9_say_39 ?_
      refine lv_bipush (v := 40) hx hb dX9_say_40 (by decide) ?_
      refine lv_irem hx hb dX9_say_42 (by decide) ?_
      refine lv_dup2_11 hx hb dX9_say_43 rfl rfl ?_
      obtain ⟨g7, hF⟩ := gd_el hF
      refine va_iald hx hb hK hP 2 1 rfl rfl (inR_in g7) dX9_say_44 ?_
      refine lv_iconst (v := 1) hx hb dX9_say_45 (by decide) ?_
      refine lv_iadd hx hb dX9_say_46 ?_
      obtain ⟨g8, hF⟩ := gd_el hF
      refine ias (ws' := [oX9 h_ v_divisor v_clocks v_wanted v_rowsOn v_level v_form v_outputs v_byteKept v_ins v_changed h_received h_marks v_receivedMany v_overrun h_sending v_sendingMany v_emptyUp v_lateUp v_lateCount h_waveHigh h_waveBeats v_waveMany v_lineIn v_sends v_sentCharacter v_sentForm v_sentBeat v_senderHigh v_takes v_sawHigh v_takenForm v_takenBeat v_takenBits v_takenParity v_beats p1 h_runHigh h_runBeats v_runs v_thrown, aZ h_runHigh k_runHigh v_runHigh_n v_runHigh_a, aI h_runBeats k_runBeats v_runBeats_n (upd v_runBeats_a (((v_runs - 1) - (v_runs - 1) / 40 * 40).toNatClampNeg) ((v_runBeats_a ((v_runs - 1) - (v_runs - 1) / 40 * 40).toNatClampNeg) + 1))]) hx hb hK hP hD hS 2 1 rfl rfl g8 rfl dX9_say_47 (fun H locs hP hD hS => ?_)
      exact hret (p1, v_runs, v_runHigh_a, upd v_runBeats_a (((v_runs - 1) - (v_runs - 1) / 40 * 40).toNatClampNeg) ((v_runBeats_a ((v_runs - 1) - (v_runs - 1) / 40 * 40).toNatClampNeg) + 1)) _ _ 48 _ hP hD hS hF dX9_say_48
def F_X9_come_50_s (rec : Int32 → Int32 → Bool → (Nat → Bool) → (Nat → Int32) → Option (Int32 × Bool × (Nat → Bool) × (Nat → Int32))) (v_waveHigh_n : Nat) (v_waveBeats_n : Nat) (l1 : Int32) (v_waveMany : Int32) (v_lineIn : Bool) (v_waveHigh_a : Nat → Bool) (v_waveBeats_a : Nat → Int32) : Option (Int32 × Bool × (Nat → Bool) × (Nat → Int32)) := if v_waveMany ≤ l1 then (some (v_waveMany, v_lineIn, v_waveHigh_a, v_waveBeats_a)) else (gd (inR (l1 + 1) v_waveHigh_n = true) (gd (inR l1 v_waveHigh_n = true) (gd (inR (l1 + 1) v_waveBeats_n = true) (gd (inR l1 v_waveBeats_n = true) (lt1 (l1 + 1) (fun x6 => rec x6 v_waveMany v_lineIn (va_up v_waveHigh_a (l1.toNatClampNeg) (v_waveHigh_a (l1 + 1).toNatClampNeg)) (upd v_waveBeats_a (l1.toNatClampNeg) (v_waveBeats_a (l1 + 1).toNatClampNeg))))))))
def F_X9_come_50 (v_waveHigh_n : Nat) (v_waveBeats_n : Nat) : Nat → Int32 → Int32 → Bool → (Nat → Bool) → (Nat → Int32) → Option (Int32 × Bool × (Nat → Bool) × (Nat → Int32))
  | 0 => fun _ _ _ _ _ => none
  | n + 1 => F_X9_come_50_s (F_X9_come_50 v_waveHigh_n v_waveBeats_n n) v_waveHigh_n v_waveBeats_n
def F_X9_come  (v_waveMany : Int32) (v_lineIn : Bool) (v_waveHigh_n : Nat) (v_waveHigh_a : Nat → Bool) (v_waveBeats_n : Nat) (v_waveBeats_a : Nat → Int32) : Option (Int32 × Bool × (Nat → Bool) × (Nat → Int32)) := if v_waveMany = 0 then (some (v_waveMany, v_lineIn, v_waveHigh_a, v_waveBeats_a)) else (gd (inR 0 v_waveHigh_n = true) (gd (inR 0 v_waveBeats_n = true) (gd (inR 0 v_waveBeats_n = true) (gd (inR 0 v_waveBeats_n = true) (if ((upd v_waveBeats_a ((0 : Int32).toNatClampNeg) ((v_waveBeats_a (0 : Int32).toNatClampNeg) - 1)) (0 : Int32).toNatClampNeg) ≤ 0 then (lt1 (v_waveMany - 1) (fun x13 => F_X9_come_50 v_waveHigh_n v_waveBeats_n 100000 0 x13 (v_waveHigh_a (0 : Int32).toNatClampNeg) v_waveHigh_a (upd v_waveBeats_a ((0 : Int32).toNatClampNeg) ((v_waveBeats_a (0 : Int32).toNatClampNeg) - 1)))) else (some (v_waveMany, (v_waveHigh_a (0 : Int32).toNatClampNeg), v_waveHigh_a, upd v_waveBeats_a ((0 : Int32).toNatClampNeg) ((v_waveBeats_a (0 : Int32).toNatClampNeg) - 1))))))))
def wX9_come (k_waveHigh : ClassId) (k_waveBeats : ClassId) (h_ : Nat) (h_received : Nat) (h_marks : Nat) (h_sending : Nat) (h_waveHigh : Nat) (h_waveBeats : Nat) (h_runHigh : Nat) (h_runBeats : Nat) (v_divisor : Int32) (v_clocks : Int32) (v_wanted : Int32) (v_rowsOn : Bool) (v_level : Int32) (v_form : Int32) (v_outputs : Int32) (v_byteKept : Int32) (v_ins : Int32) (v_changed : Int32) (v_receivedMany : Int32) (v_overrun : Bool) (v_sendingMany : Int32) (v_emptyUp : Bool) (v_lateUp : Bool) (v_lateCount : Int32) (v_sends : Bool) (v_sentCharacter : Int32) (v_sentForm : Int32) (v_sentBeat : Int32) (v_senderHigh : Bool) (v_takes : Bool) (v_sawHigh : Bool) (v_takenForm : Int32) (v_takenBeat : Int32) (v_takenBits : Int32) (v_takenParity : Int32) (v_beats : Int32) (v_out : Bool) (v_runs : Int32) (v_thrown : Int32) (v_waveHigh_n : Nat) (v_waveBeats_n : Nat) (u : Int32 × Bool × (Nat → Bool) × (Nat → Int32)) : va_W := [oX9 h_ v_divisor v_clocks v_wanted v_rowsOn v_level v_form v_outputs v_byteKept v_ins v_changed h_received h_marks v_receivedMany v_overrun h_sending v_sendingMany v_emptyUp v_lateUp v_lateCount h_waveHigh h_waveBeats u.1 u.2.1 v_sends v_sentCharacter v_sentForm v_sentBeat v_senderHigh v_takes v_sawHigh v_takenForm v_takenBeat v_takenBits v_takenParity v_beats v_out h_runHigh h_runBeats v_runs v_thrown, aZ h_waveHigh k_waveHigh v_waveHigh_n u.2.2.1, aI h_waveBeats k_waveBeats v_waveBeats_n u.2.2.2]
set_option maxHeartbeats 4000000 in
set_option maxRecDepth 100000 in
theorem mX9_come {l : Launch} (D : va_G) (k_waveHigh : ClassId) (k_waveBeats : ClassId) (h_ : Nat) (h_received : Nat) (h_marks : Nat) (h_sending : Nat) (h_waveHigh : Nat) (h_waveBeats : Nat) (h_runHigh : Nat) (h_runBeats : Nat) (v_divisor : Int32) (v_clocks : Int32) (v_wanted : Int32) (v_rowsOn : Bool) (v_level : Int32) (v_form : Int32) (v_outputs : Int32) (v_byteKept : Int32) (v_ins : Int32) (v_changed : Int32) (v_receivedMany : Int32) (v_overrun : Bool) (v_sendingMany : Int32) (v_emptyUp : Bool) (v_lateUp : Bool) (v_lateCount : Int32) (v_waveMany : Int32) (v_lineIn : Bool) (v_sends : Bool) (v_sentCharacter : Int32) (v_sentForm : Int32) (v_sentBeat : Int32) (v_senderHigh : Bool) (v_takes : Bool) (v_sawHigh : Bool) (v_takenForm : Int32) (v_takenBeat : Int32) (v_takenBits : Int32) (v_takenParity : Int32) (v_beats : Int32) (v_out : Bool) (v_runs : Int32) (v_thrown : Int32) (v_waveHigh_n : Nat) (v_waveHigh_a : Nat → Bool) (v_waveBeats_n : Nat) (v_waveBeats_a : Nat → Int32) (u0 : Int32 × Bool × (Nat → Bool) × (Nat → Int32)) (hF : F_X9_come v_waveMany v_lineIn v_waveHigh_n v_waveHigh_a v_waveBeats_n v_waveBeats_a = some u0) : MV l yX9_come wsX9_come { frames := 0, cells := 0, slots := 0, locals := 0 } D [(k_waveHigh, .boolean), (k_waveBeats, .int)] [.ref h_] [oX9 h_ v_divisor v_clocks v_wanted v_rowsOn v_level v_form v_outputs v_byteKept v_ins v_changed h_received h_marks v_receivedMany v_overrun h_sending v_sendingMany v_emptyUp v_lateUp v_lateCount h_waveHigh h_waveBeats v_waveMany v_lineIn v_sends v_sentCharacter v_sentForm v_sentBeat v_senderHigh v_takes v_sawHigh v_takenForm v_takenBeat v_takenBits v_takenParity v_beats v_out h_runHigh h_runBeats v_runs v_thrown, aZ h_waveHigh k_waveHigh v_waveHigh_n v_waveHigh_a, aI h_waveBeats k_waveBeats v_waveBeats_n v_waveBeats_a] (wX9_come k_waveHigh k_waveBeats h_ h_received h_marks h_sending h_waveHigh h_waveBeats h_runHigh h_runBeats v_divisor v_clocks v_wanted v_rowsOn v_level v_form v_outputs v_byteKept v_ins v_changed v_receivedMany v_overrun v_sendingMany v_emptyUp v_lateUp v_lateCount v_sends v_sentCharacter v_sentForm v_sentBeat v_senderHigh v_takes v_sawHigh v_takenForm v_takenBeat v_takenBits v_takenParity v_beats v_out v_runs v_thrown v_waveHigh_n v_waveBeats_n u0) := by
  refine MV.ofW (cc := cX9_come) (maxL := 2) (ret := none) (lv := [(0, .ref h_)]) (by decide +kernel) rfl (Nat.le_of_ble_eq_true rfl) rfl ?_
  intro p e s m args below meth c A ls hx hb hr hml hts hown hlocks hA hK hP hD hS hl
  replace hown : s.vm.findClass RX9 = some m.cls := hown
  have i_X9 : ∀ w ∈ wsX90, w ∈ wsX9_come := by decide +kernel
  have f_19 := hts (.fieldLink RX9 19 "SerialPortModel" "waveHigh" "[Z") (by decide +kernel)
  have f_23 := hts (.fieldLink RX9 23 "SerialPortModel" "waveBeats" "[I") (by decide +kernel)
  have f_88 := hts (.fieldLink RX9 88 "SerialPortModel" "waveMany" "I") (by decide +kernel)
  have f_91 := hts (.fieldLink RX9 91 "SerialPortModel" "lineIn" "Z") (by decide +kernel)
  have hret : ∀ (u : Int32 × Bool × (Nat → Bool) × (Nat → Int32)) (H : Heap) (locs : List Loc) (pc : Nat) (ls : Array Slot), va_P D vwCl (wX9_come k_waveHigh k_waveBeats h_ h_received h_marks h_sending h_waveHigh h_waveBeats h_runHigh h_runBeats v_divisor v_clocks v_wanted v_rowsOn v_level v_form v_outputs v_byteKept v_ins v_changed v_receivedMany v_overrun v_sendingMany v_emptyUp v_lateUp v_lateCount v_sends v_sentCharacter v_sentForm v_sentBeat v_senderHigh v_takes v_sawHigh v_takenForm v_takenBeat v_takenBits v_takenParity v_beats v_out v_runs v_thrown v_waveHigh_n v_waveBeats_n u) H → va_D A (wX9_come k_waveHigh k_waveBeats h_ h_received h_marks h_sending h_waveHigh h_waveBeats h_runHigh h_runBeats v_divisor v_clocks v_wanted v_rowsOn v_level v_form v_outputs v_byteKept v_ins v_changed v_receivedMany v_overrun v_sendingMany v_emptyUp v_lateUp v_lateCount v_sends v_sentCharacter v_sentForm v_sentBeat v_senderHigh v_takes v_sawHigh v_takenForm v_takenBeat v_takenBits v_takenParity v_beats v_out v_runs v_thrown v_waveHigh_n v_waveBeats_n u) → va_S A s.heap H locs → some u = some u0 → decode cX9_come pc = .ok (.return_, 1) → W p l e { frames := 0, cells := 0, slots := 0, locals := 0 } s m args below meth c H locs 0 0 (QV below D [(k_waveHigh, .boolean), (k_waveBeats, .int)] (wX9_come k_waveHigh k_waveBeats h_ h_received h_marks h_sending h_waveHigh h_waveBeats h_runHigh h_runBeats v_divisor v_clocks v_wanted v_rowsOn v_level v_form v_outputs v_byteKept v_ins v_changed v_receivedMany v_overrun v_sendingMany v_emptyUp v_lateUp v_lateCount v_sends v_sentCharacter v_sentForm v_sentBeat v_senderHigh v_takes v_sawHigh v_takenForm v_takenBeat v_takenBits v_takenParity v_beats v_out v_runs v_thrown v_waveHigh_n v_waveBeats_n u0) args s A) (F0 m pc ls []) := fun u H locs pc ls h1 h2 h3 h4 h5 => rV (wf := wX9_come k_waveHigh k_waveBeats h_ h_received h_marks h_sending h_waveHigh h_waveBeats h_runHigh h_runBeats v_divisor v_clocks v_wanted v_rowsOn v_level v_form v_outputs v_byteKept v_ins v_changed v_receivedMany v_overrun v_sendingMany v_emptyUp v_lateUp v_lateCount v_sends v_sentCharacter v_sentForm v_sentBeat v_senderHigh v_takes v_sawHigh v_takenForm v_takenBeat v_takenBits v_takenParity v_beats v_out v_runs v_thrown v_waveHigh_n v_waveBeats_n) hx hb hr hlocks hK h1 h2 h3 h4 h5
  have J50 : ∀ (n : Nat) (l1 : Int32) (v_waveMany : Int32) (v_lineIn : Bool) (v_waveHigh_a : Nat → Bool) (v_waveBeats_a : Nat → Int32) (H : Heap) (locs : List Loc) (ls : Array Slot), F_X9_come_50 v_waveHigh_n v_waveBeats_n n l1 v_waveMany v_lineIn v_waveHigh_a v_waveBeats_a = some u0 → lv_has ls 2 [(0, .ref h_), (1, .int l1)] → va_P D vwCl [oX9 h_ v_divisor v_clocks v_wanted v_rowsOn v_level v_form v_outputs v_byteKept v_ins v_changed h_received h_marks v_receivedMany v_overrun h_sending v_sendingMany v_emptyUp v_lateUp v_lateCount h_waveHigh h_waveBeats v_waveMany v_lineIn v_sends v_sentCharacter v_sentForm v_sentBeat v_senderHigh v_takes v_sawHigh v_takenForm v_takenBeat v_takenBits v_takenParity v_beats v_out h_runHigh h_runBeats v_runs v_thrown, aZ h_waveHigh k_waveHigh v_waveHigh_n v_waveHigh_a, aI h_waveBeats k_waveBeats v_waveBeats_n v_waveBeats_a] H → va_D A [oX9 h_ v_divisor v_clocks v_wanted v_rowsOn v_level v_form v_outputs v_byteKept v_ins v_changed h_received h_marks v_receivedMany v_overrun h_sending v_sendingMany v_emptyUp v_lateUp v_lateCount h_waveHigh h_waveBeats v_waveMany v_lineIn v_sends v_sentCharacter v_sentForm v_sentBeat v_senderHigh v_takes v_sawHigh v_takenForm v_takenBeat v_takenBits v_takenParity v_beats v_out h_runHigh h_runBeats v_runs v_thrown, aZ h_waveHigh k_waveHigh v_waveHigh_n v_waveHigh_a, aI h_waveBeats k_waveBeats v_waveBeats_n v_waveBeats_a] → va_S A s.heap H locs → W p l e { frames := 0, cells := 0, slots := 0, locals := 0 } s m args below meth c H locs 0 0 (QV below D [(k_waveHigh, .boolean), (k_waveBeats, .int)] (wX9_come k_waveHigh k_waveBeats h_ h_received h_marks h_sending h_waveHigh h_waveBeats h_runHigh h_runBeats v_divisor v_clocks v_wanted v_rowsOn v_level v_form v_outputs v_byteKept v_ins v_changed v_receivedMany v_overrun v_sendingMany v_emptyUp v_lateUp v_lateCount v_sends v_sentCharacter v_sentForm v_sentBeat v_senderHigh v_takes v_sawHigh v_takenForm v_takenBeat v_takenBits v_takenParity v_beats v_out v_runs v_thrown v_waveHigh_n v_waveBeats_n u0) args s A) (F0 m 50 ls []) := by
    intro n
    induction n with
    | zero =>
      intro l1 v_waveMany v_lineIn v_waveHigh_a v_waveBeats_a H locs ls hF hl hP hD hS
      have hF : (none : Option (Int32 × Bool × (Nat → Bool) × (Nat → Int32))) = some u0 := hF
      cases hF
    | succ n ih =>
      intro l1 v_waveMany v_lineIn v_waveHigh_a v_waveBeats_a H locs ls hF hl hP hD hS
      replace hF : F_X9_come_50_s (F_X9_come_50 v_waveHigh_n v_waveBeats_n n) v_waveHigh_n v_waveBeats_n l1 v_waveMany v_lineIn v_waveHigh_a v_waveBeats_a = some u0 := hF
      unfold F_X9_come_50_s at hF
      refine lv_iload_n hx hb dX9_come_50 rfl (lv_at hl 1 rfl) ?_
      refine lv_aload_n hx hb dX9_come_51 rfl (lv_at hl 0 rfl) ?_
      refine va_get (D := D) (ci := 8) (v := .int v_waveMany) (C := RX9) (T := TX9) (N := 40) hx hb hts i_X9 hown hK hP 0 rfl rfl 21 (Nat.le_of_ble_eq_true rfl) f_88 (fun _ h9 => h9) rfl dX9_come_52 ?_
      refine lv_icmp_ge (tgt := 92) hx hb dX9_come_55 (by decide) (fun c1 => ?_) (fun c1 => ?_)
      · replace hF := it_t c1 hF
        exact hret (v_waveMany, v_lineIn, v_waveHigh_a, v_waveBeats_a) _ _ 92 _ hP hD hS hF dX9_come_92
      · replace hF := it_f c1 hF
        refine lv_aload_n hx hb dX9_come_58 rfl (lv_at hl 0 rfl) ?_
        refine va_get (D := D) (ci := 8) (v := .ref h_waveHigh) (C := RX9) (T := TX9) (N := 40) hx hb hts i_X9 hown hK hP 0 rfl rfl 19 (Nat.le_of_ble_eq_true rfl) f_19 (fun _ h9 => h9) rfl dX9_come_59 ?_
        refine lv_iload_n hx hb dX9_come_62 rfl (lv_at hl 1 rfl) ?_
        refine lv_aload_n hx hb dX9_come_63 rfl (lv_at hl 0 rfl) ?_
        refine va_get (D := D) (ci := 8) (v := .ref h_waveHigh) (C := RX9) (T := TX9) (N := 40) hx hb hts i_X9 hown hK hP 0 rfl rfl 19 (Nat.le_of_ble_eq_true rfl) f_19 (fun _ h9 => h9) rfl dX9_come_64 ?_
        refine lv_iload_n hx hb dX9_come_67 rfl (lv_at hl 1 rfl) ?_
        refine lv_iconst (v := 1) hx hb dX9_come_68 (by decide) ?_
        refine lv_iadd hx hb dX9_come_69 ?_
        obtain ⟨g2, hF⟩ := gd_el hF
        refine va_zald hx hb hK hP 1 0 rfl rfl (inR_in g2) dX9_come_70 ?_
        refine W.eq (g2 := F0 m 71 ls [.int (bI (v_waveHigh_a (l1 + 1).toNatClampNeg)), .int l1, .ref h_waveHigh]) rfl ?_
        obtain ⟨g3, hF⟩ := gd_el hF
        refine zas (x := (v_waveHigh_a (l1 + 1).toNatClampNeg)) (ws' := [oX9 h_ v_divisor v_clocks v_wanted v_rowsOn v_level v_form v_outputs v_byteKept v_ins v_changed h_received h_marks v_receivedMany v_overrun h_sending v_sendingMany v_emptyUp v_lateUp v_lateCount h_waveHigh h_waveBeats v_waveMany v_lineIn v_sends v_sentCharacter v_sentForm v_sentBeat v_senderHigh v_takes v_sawHigh v_takenForm v_takenBeat v_takenBits v_takenParity v_beats v_out h_runHigh h_runBeats v_runs v_thrown, aZ h_waveHigh k_waveHigh v_waveHigh_n (va_up v_waveHigh_a (l1.toNatClampNeg) (v_waveHigh_a (l1 + 1).toNatClampNeg)), aI h_waveBeats k_waveBeats v_waveBeats_n v_waveBeats_a]) hx hb hK hP hD hS 1 0 rfl rfl rfl g3 rfl dX9_come_71 (fun H locs hP hD hS => ?_)
        refine lv_aload_n hx hb dX9_come_72 rfl (lv_at hl 0 rfl) ?_
        refine va_get (D := D) (ci := 8) (v := .ref h_waveBeats) (C := RX9) (T := TX9) (N := 40) hx hb hts i_X9 hown hK hP 0 rfl rfl 20 (Nat.le_of_ble_eq_true rfl) f_23 (fun _ h9 => h9) rfl dX9_come_73 ?_
        refine lv_iload_n hx hb dX9_come_76 rfl (lv_at hl 1 rfl) ?_
        refine lv_aload_n hx hb dX9_come_77 rfl (lv_at hl 0 rfl) ?_
        refine va_get (D := D) (ci := 8) (v := .ref h_waveBeats) (C := RX9) (T := TX9) (N := 40) hx hb hts i_X9 hown hK hP 0 rfl rfl 20 (Nat.le_of_ble_eq_true rfl) f_23 (fun _ h9 => h9) rfl dX9_come_78 ?_
        refine lv_iload_n hx hb dX9_come_81 rfl (lv_at hl 1 rfl) ?_
        refine lv_iconst (v := 1) hx hb dX9_come_82 (by decide) ?_
        refine lv_iadd hx hb dX9_come_83 ?_
        obtain ⟨g4, hF⟩ := gd_el hF
        refine va_iald hx hb hK hP 2 1 rfl rfl (inR_in g4) dX9_come_84 ?_
        obtain ⟨g5, hF⟩ := gd_el hF
        refine ias (ws' := [oX9 h_ v_divisor v_clocks v_wanted v_rowsOn v_level v_form v_outputs v_byteKept v_ins v_changed h_received h_marks v_receivedMany v_overrun h_sending v_sendingMany v_emptyUp v_lateUp v_lateCount h_waveHigh h_waveBeats v_waveMany v_lineIn v_sends v_sentCharacter v_sentForm v_sentBeat v_senderHigh v_takes v_sawHigh v_takenForm v_takenBeat v_takenBits v_takenParity v_beats v_out h_runHigh h_runBeats v_runs v_thrown, aZ h_waveHigh k_waveHigh v_waveHigh_n (va_up v_waveHigh_a (l1.toNatClampNeg) (v_waveHigh_a (l1 + 1).toNatClampNeg)), aI h_waveBeats k_waveBeats v_waveBeats_n (upd v_waveBeats_a (l1.toNatClampNeg) (v_waveBeats_a (l1 + 1).toNatClampNeg))]) hx hb hK hP hD hS 2 1 rfl rfl g5 rfl dX9_come_85 (fun H locs hP hD hS => ?_)
        obtain ⟨x6, ex6⟩ : ∃ y : Int32, y = l1 + 1 := ⟨_, rfl⟩
        replace hF := lt1_x ex6 hF
        refine lv_iinc (v := x6) (lv' := [(1, .int x6), (0, .ref h_)]) hx hb dX9_come_86 hl (k := 1) rfl (by rw [ex6]; rfl) (Nat.le_of_ble_eq_true rfl) rfl (fun ls hl => ?_)
        refine lv_goto (tgt := 50) hx hb dX9_come_89 (by decide) ?_
        exact ih x6 v_waveMany v_lineIn (va_up v_waveHigh_a (l1.toNatClampNeg) (v_waveHigh_a (l1 + 1).toNatClampNeg)) (upd v_waveBeats_a (l1.toNatClampNeg) (v_waveBeats_a (l1 + 1).toNatClampNeg)) _ _ _ hF (lv_sub hl [1, 0] rfl) hP hD hS
  unfold F_X9_come at hF
  refine lv_aload_n hx hb dX9_come_0 rfl (lv_at hl 0 rfl) ?_
  refine va_get (D := D) (ci := 8) (v := .int v_waveMany) (C := RX9) (T := TX9) (N := 40) hx hb hts i_X9 hown hK hP 0 rfl rfl 21 (Nat.le_of_ble_eq_true rfl) f_88 (fun _ h9 => h9) rfl dX9_come_1 ?_
  refine lv_if_ne (tgt := 8) hx hb dX9_come_4 (by decide) (fun c7 => ?_) (fun c7 => ?_)
  · replace hF := it_f c7 hF
    refine lv_aload_n hx hb dX9_come_8 rfl (lv_at hl 0 rfl) ?_
    refine lv_aload_n hx hb dX9_come_9 rfl (lv_at hl 0 rfl) ?_
    refine va_get (D := D) (ci := 8) (v := .ref h_waveHigh) (C := RX9) (T := TX9) (N := 40) hx hb hts i_X9 hown hK hP 0 rfl rfl 19 (Nat.le_of_ble_eq_true rfl) f_19 (fun _ h9 => h9) rfl dX9_come_10 ?_
    refine lv_iconst (v := 0) hx hb dX9_come_13 (by decide) ?_
    obtain ⟨g8, hF⟩ := gd_el hF
    refine va_zald hx hb hK hP 1 0 rfl rfl (inR_in g8) dX9_come_14 ?_
    refine W.eq (g2 := F0 m 15 ls [.int (bI (v_waveHigh_a (0 : Int32).toNatClampNeg)), .ref h_]) rfl ?_
    refine pf (ci := 8) (v := .int (bI (v_waveHigh_a (0 : Int32).toNatClampNeg))) (ty := .boolean) (C := RX9) (T := TX9) (N := 40) (ws' := [oX9 h_ v_divisor v_clocks v_wanted v_rowsOn v_level v_form v_outputs v_byteKept v_ins v_changed h_received h_marks v_receivedMany v_overrun h_sending v_sendingMany v_emptyUp v_lateUp v_lateCount h_waveHigh h_waveBeats v_waveMany (v_waveHigh_a (0 : Int32).toNatClampNeg) v_sends v_sentCharacter v_sentForm v_sentBeat v_senderHigh v_takes v_sawHigh v_takenForm v_takenBeat v_takenBits v_takenParity v_beats v_out h_runHigh h_runBeats v_runs v_thrown, aZ h_waveHigh k_waveHigh v_waveHigh_n v_waveHigh_a, aI h_waveBeats k_waveBeats v_waveBeats_n v_waveBeats_a]) hx hb hts i_X9 tyX9_ok nmX9 hown hK hP hD hS 0 rfl rfl 22 (Nat.le_of_ble_eq_true rfl) f_91 rfl rfl (by decide +kernel) (nar_bI (v_waveHigh_a (0 : Int32).toNatClampNeg)) (fit_bI (v_waveHigh_a (0 : Int32).toNatClampNeg)) (Nat.le_of_ble_eq_true rfl) rfl dX9_come_15 (fun H locs hP hD hS => ?_)
    refine lv_aload_n hx hb dX9_come_18 rfl (lv_at hl 0 rfl) ?_
    refine va_get (D := D) (ci := 8) (v := .ref h_waveBeats) (C := RX9) (T := TX9) (N := 40) hx hb hts i_X9 hown hK hP 0 rfl rfl 20 (Nat.le_of_ble_eq_true rfl) f_23 (fun _ h9 => h9) rfl dX9_come_19 ?_
    refine lv_iconst (v := 0) hx hb dX9_come_22 (by decide) ?_
    refine lv_dup2_11 hx hb dX9_come_23 rfl rfl ?_
    obtain ⟨g9, hF⟩ := gd_el hF
    refine va_iald hx hb hK hP 2 1 rfl rfl (inR_in g9) dX9_come_24 ?_
    refine lv_iconst (v := 1) hx hb dX9_come_25 (by decide) ?_
    refine lv_isub hx hb dX9_come_26 ?_
    obtain ⟨g10, hF⟩ := gd_el hF
    refine ias (ws' := [oX9 h_ v_divisor v_clocks v_wanted v_rowsOn v_level v_form v_outputs v_byteKept v_ins v_changed h_received h_marks v_receivedMany v_overrun h_sending v_sendingMany v_emptyUp v_lateUp v_lateCount h_waveHigh h_waveBeats v_waveMany (v_waveHigh_a (0 : Int32).toNatClampNeg) v_sends v_sentCharacter v_sentForm v_sentBeat v_senderHigh v_takes v_sawHigh v_takenForm v_takenBeat v_takenBits v_takenParity v_beats v_out h_runHigh h_runBeats v_runs v_thrown, aZ h_waveHigh k_waveHigh v_waveHigh_n v_waveHigh_a, aI h_waveBeats k_waveBeats v_waveBeats_n (upd v_waveBeats_a ((0 : Int32).toNatClampNeg) ((v_waveBeats_a (0 : Int32).toNatClampNeg) - 1))]) hx hb hK hP hD hS 2 1 rfl rfl g10 rfl dX9_come_27 (fun H locs hP hD hS => ?_)
    refine lv_aload_n hx hb dX9_come_28 rfl (lv_at hl 0 rfl) ?_
    refine va_get (D := D) (ci := 8) (v := .ref h_waveBeats) (C := RX9) (T := TX9) (N := 40) hx hb hts i_X9 hown hK hP 0 rfl rfl 20 (Nat.le_of_ble_eq_true rfl) f_23 (fun _ h9 => h9) rfl dX9_come_29 ?_
    refine lv_iconst (v := 0) hx hb dX9_come_32 (by decide) ?_
    obtain ⟨g11, hF⟩ := gd_el hF
    refine va_iald hx hb hK hP 2 1 rfl rfl (inR_in g11) dX9_come_33 ?_
    refine lv_if_le (tgt := 38) hx hb dX9_come_34 (by decide) (fun c12 => ?_) (fun c12 => ?_)
    · replace hF := it_t c12 hF
      refine lv_aload_n hx hb dX9_come_38 rfl (lv_at hl 0 rfl) ?_
      refine lv_dup hx hb dX9_come_39 rfl ?_
      refine va_get (D := D) (ci := 8) (v := .int v_waveMany) (C := RX9) (T := TX9) (N := 40) hx hb hts i_X9 hown hK hP 0 rfl rfl 21 (Nat.le_of_ble_eq_true rfl) f_88 (fun _ h9 => h9) rfl dX9_come_40 ?_
      refine lv_iconst (v := 1) hx hb dX9_come_43 (by decide) ?_
      refine lv_isub hx hb dX9_come_44 ?_
      refine lv_topi (fun x13 ex13 => ?_)
      replace hF := lt1_x ex13 hF
      refine pf (ci := 8) (v := .int x13) (ty := .int) (C := RX9) (T := TX9) (N := 40) (ws' := [oX9 h_ v_divisor v_clocks v_wanted v_rowsOn v_level v_form v_outputs v_byteKept v_ins v_changed h_received h_marks v_receivedMany v_overrun h_sending v_sendingMany v_emptyUp v_lateUp v_lateCount h_waveHigh h_waveBeats x13 (v_waveHigh_a (0 : Int32).toNatClampNeg) v_sends v_sentCharacter v_sentForm v_sentBeat v_senderHigh v_takes v_sawHigh v_takenForm v_takenBeat v_takenBits v_takenParity v_beats v_out h_runHigh h_runBeats v_runs v_thrown, aZ h_waveHigh k_waveHigh v_waveHigh_n v_waveHigh_a, aI h_waveBeats k_waveBeats v_waveBeats_n (upd v_waveBeats_a ((0 : Int32).toNatClampNeg) ((v_waveBeats_a (0 : Int32).toNatClampNeg) - 1))]) hx hb hts i_X9 tyX9_ok nmX9 hown hK hP hD hS 0 rfl rfl 21 (Nat.le_of_ble_eq_true rfl) f_88 rfl rfl (by decide +kernel) rfl rfl (Nat.le_of_ble_eq_true rfl) rfl dX9_come_45 (fun H locs hP hD hS => ?_)
      refine lv_iconst (v := 0) hx hb dX9_come_48 (by decide) ?_
      refine lv_istore_n (lv' := [(1, .int 0), (0, .ref h_)]) hx hb dX9_come_49 rfl hl (Nat.le_of_ble_eq_true rfl) rfl (fun ls hl => ?_)
      exact J50 100000 0 x13 (v_waveHigh_a (0 : Int32).toNatClampNeg) v_waveHigh_a (upd v_waveBeats_a ((0 : Int32).toNatClampNeg) ((v_waveBeats_a (0 : Int32).toNatClampNeg) - 1)) _ _ _ hF (lv_sub hl [1, 0] rfl) hP hD hS
    · replace hF := it_f c12 hF
      exact hret (v_waveMany, (v_waveHigh_a (0 : Int32).toNatClampNeg), v_waveHigh_a, upd v_waveBeats_a ((0 : Int32).toNatClampNeg) ((v_waveBeats_a (0 : Int32).toNatClampNeg) - 1)) _ _ 37 _ hP hD hS hF dX9_come_37
  · replace hF := it_t c7 hF
    exact hret (v_waveMany, v_lineIn, v_waveHigh_a, v_waveBeats_a) _ _ 7 _ hP hD hS hF dX9_come_7
def F_X9_put_29 (v_rowsOn : Bool) (v_received_n : Nat) (v_marks_n : Nat) (l1 : Int32) (l2 : Int32) (v_receivedMany : Int32) (v_overrun : Bool) (v_lateCount : Int32) (v_received_a : Nat → Int32) (v_marks_a : Nat → Int32) : Option (Int32 × Bool × Int32 × (Nat → Int32) × (Nat → Int32)) := gd (inR v_receivedMany v_received_n = true) (gd (inR v_receivedMany v_marks_n = true) (lt1 (v_receivedMany + 1) (fun x3 => some (x3, v_overrun, (-1), upd v_received_a (v_receivedMany.toNatClampNeg) l1, upd v_marks_a (v_receivedMany.toNatClampNeg) l2))))
def F_X9_put (p1 : Int32) (p2 : Int32) (v_rowsOn : Bool) (v_receivedMany : Int32) (v_overrun : Bool) (v_lateCount : Int32) (v_received_n : Nat) (v_received_a : Nat → Int32) (v_marks_n : Nat) (v_marks_a : Nat → Int32) : Option (Int32 × Bool × Int32 × (Nat → Int32) × (Nat → Int32)) := bd (F_X9_room v_rowsOn) (fun u4 => if v_receivedMany = u4 then (bt v_rowsOn (some (v_receivedMany, true, v_lateCount, v_received_a, v_marks_a)) (F_X9_put_29 v_rowsOn v_received_n v_marks_n p1 p2 0 true v_lateCount v_received_a v_marks_a)) else (F_X9_put_29 v_rowsOn v_received_n v_marks_n p1 p2 v_receivedMany v_overrun v_lateCount v_received_a v_marks_a))
def wX9_put (k_received : ClassId) (k_marks : ClassId) (h_ : Nat) (h_received : Nat) (h_marks : Nat) (h_sending : Nat) (h_waveHigh : Nat) (h_waveBeats : Nat) (h_runHigh : Nat) (h_runBeats : Nat) (v_divisor : Int32) (v_clocks : Int32) (v_wanted : Int32) (v_rowsOn : Bool) (v_level : Int32) (v_form : Int32) (v_outputs : Int32) (v_byteKept : Int32) (v_ins : Int32) (v_changed : Int32) (v_sendingMany : Int32) (v_emptyUp : Bool) (v_lateUp : Bool) (v_waveMany : Int32) (v_lineIn : Bool) (v_sends : Bool) (v_sentCharacter : Int32) (v_sentForm : Int32) (v_sentBeat : Int32) (v_senderHigh : Bool) (v_takes : Bool) (v_sawHigh : Bool) (v_takenForm : Int32) (v_takenBeat : Int32) (v_takenBits : Int32) (v_takenParity : Int32) (v_beats : Int32) (v_out : Bool) (v_runs : Int32) (v_thrown : Int32) (v_received_n : Nat) (v_marks_n : Nat) (u : Int32 × Bool × Int32 × (Nat → Int32) × (Nat → Int32)) : va_W := [oX9 h_ v_divisor v_clocks v_wanted v_rowsOn v_level v_form v_outputs v_byteKept v_ins v_changed h_received h_marks u.1 u.2.1 h_sending v_sendingMany v_emptyUp v_lateUp u.2.2.1 h_waveHigh h_waveBeats v_waveMany v_lineIn v_sends v_sentCharacter v_sentForm v_sentBeat v_senderHigh v_takes v_sawHigh v_takenForm v_takenBeat v_takenBits v_takenParity v_beats v_out h_runHigh h_runBeats v_runs v_thrown, aI h_received k_received v_received_n u.2.2.2.1, aI h_marks k_marks v_marks_n u.2.2.2.2]
set_option maxHeartbeats 4000000 in
set_option maxRecDepth 100000 in
theorem mX9_put {l : Launch} (D : va_G) (k_received : ClassId) (k_marks : ClassId) (h_ : Nat) (h_received : Nat) (h_marks : Nat) (h_sending : Nat) (h_waveHigh : Nat) (h_waveBeats : Nat) (h_runHigh : Nat) (h_runBeats : Nat) (v_divisor : Int32) (v_clocks : Int32) (v_wanted : Int32) (v_rowsOn : Bool) (v_level : Int32) (v_form : Int32) (v_outputs : Int32) (v_byteKept : Int32) (v_ins : Int32) (v_changed : Int32) (v_receivedMany : Int32) (v_overrun : Bool) (v_sendingMany : Int32) (v_emptyUp : Bool) (v_lateUp : Bool) (v_lateCount : Int32) (v_waveMany : Int32) (v_lineIn : Bool) (v_sends : Bool) (v_sentCharacter : Int32) (v_sentForm : Int32) (v_sentBeat : Int32) (v_senderHigh : Bool) (v_takes : Bool) (v_sawHigh : Bool) (v_takenForm : Int32) (v_takenBeat : Int32) (v_takenBits : Int32) (v_takenParity : Int32) (v_beats : Int32) (v_out : Bool) (v_runs : Int32) (v_thrown : Int32) (v_received_n : Nat) (v_received_a : Nat → Int32) (v_marks_n : Nat) (v_marks_a : Nat → Int32) (p1 : Int32) (p2 : Int32) (u0 : Int32 × Bool × Int32 × (Nat → Int32) × (Nat → Int32)) (hF : F_X9_put p1 p2 v_rowsOn v_receivedMany v_overrun v_lateCount v_received_n v_received_a v_marks_n v_marks_a = some u0) : MV l yX9_put wsX9_put { frames := 1, cells := 0, slots := 0, locals := 20 } D [(k_received, .int), (k_marks, .int)] [.ref h_, .int p1, .int p2] [oX9 h_ v_divisor v_clocks v_wanted v_rowsOn v_level v_form v_outputs v_byteKept v_ins v_changed h_received h_marks v_receivedMany v_overrun h_sending v_sendingMany v_emptyUp v_lateUp v_lateCount h_waveHigh h_waveBeats v_waveMany v_lineIn v_sends v_sentCharacter v_sentForm v_sentBeat v_senderHigh v_takes v_sawHigh v_takenForm v_takenBeat v_takenBits v_takenParity v_beats v_out h_runHigh h_runBeats v_runs v_thrown, aI h_received k_received v_received_n v_received_a, aI h_marks k_marks v_marks_n v_marks_a] (wX9_put k_received k_marks h_ h_received h_marks h_sending h_waveHigh h_waveBeats h_runHigh h_runBeats v_divisor v_clocks v_wanted v_rowsOn v_level v_form v_outputs v_byteKept v_ins v_changed v_sendingMany v_emptyUp v_lateUp v_waveMany v_lineIn v_sends v_sentCharacter v_sentForm v_sentBeat v_senderHigh v_takes v_sawHigh v_takenForm v_takenBeat v_takenBits v_takenParity v_beats v_out v_runs v_thrown v_received_n v_marks_n u0) := by
  refine MV.ofW (cc := cX9_put) (maxL := 3) (ret := none) (lv := [(0, .ref h_), (1, .int p1), (2, .int p2)]) (by decide +kernel) rfl (Nat.le_of_ble_eq_true rfl) rfl ?_
  intro p e s m args below meth c A ls hx hb hr hml hts hown hlocks hA hK hP hD hS hl
  replace hown : s.vm.findClass RX9 = some m.cls := hown
  have i_X9 : ∀ w ∈ wsX90, w ∈ wsX9_put := by decide +kernel
  have f_9 := hts (.fieldLink RX9 9 "SerialPortModel" "received" "[I") (by decide +kernel)
  have f_13 := hts (.fieldLink RX9 13 "SerialPortModel" "marks" "[I") (by decide +kernel)
  have f_48 := hts (.fieldLink RX9 48 "SerialPortModel" "rowsOn" "Z") (by decide +kernel)
  have f_70 := hts (.fieldLink RX9 70 "SerialPortModel" "receivedMany" "I") (by decide +kernel)
  have f_73 := hts (.fieldLink RX9 73 "SerialPortModel" "overrun" "Z") (by decide +kernel)
  have f_85 := hts (.fieldLink RX9 85 "SerialPortModel" "lateCount" "I") (by decide +kernel)
  have hret : ∀ (u : Int32 × Bool × Int32 × (Nat → Int32) × (Nat → Int32)) (H : Heap) (locs : List Loc) (pc : Nat) (ls : Array Slot), va_P D vwCl (wX9_put k_received k_marks h_ h_received h_marks h_sending h_waveHigh h_waveBeats h_runHigh h_runBeats v_divisor v_clocks v_wanted v_rowsOn v_level v_form v_outputs v_byteKept v_ins v_changed v_sendingMany v_emptyUp v_lateUp v_waveMany v_lineIn v_sends v_sentCharacter v_sentForm v_sentBeat v_senderHigh v_takes v_sawHigh v_takenForm v_takenBeat v_takenBits v_takenParity v_beats v_out v_runs v_thrown v_received_n v_marks_n u) H → va_D A (wX9_put k_received k_marks h_ h_received h_marks h_sending h_waveHigh h_waveBeats h_runHigh h_runBeats v_divisor v_clocks v_wanted v_rowsOn v_level v_form v_outputs v_byteKept v_ins v_changed v_sendingMany v_emptyUp v_lateUp v_waveMany v_lineIn v_sends v_sentCharacter v_sentForm v_sentBeat v_senderHigh v_takes v_sawHigh v_takenForm v_takenBeat v_takenBits v_takenParity v_beats v_out v_runs v_thrown v_received_n v_marks_n u) → va_S A s.heap H locs → some u = some u0 → decode cX9_put pc = .ok (.return_, 1) → W p l e { frames := 1, cells := 0, slots := 0, locals := 20 } s m args below meth c H locs 0 0 (QV below D [(k_received, .int), (k_marks, .int)] (wX9_put k_received k_marks h_ h_received h_marks h_sending h_waveHigh h_waveBeats h_runHigh h_runBeats v_divisor v_clocks v_wanted v_rowsOn v_level v_form v_outputs v_byteKept v_ins v_changed v_sendingMany v_emptyUp v_lateUp v_waveMany v_lineIn v_sends v_sentCharacter v_sentForm v_sentBeat v_senderHigh v_takes v_sawHigh v_takenForm v_takenBeat v_takenBits v_takenParity v_beats v_out v_runs v_thrown v_received_n v_marks_n u0) args s A) (F0 m pc ls []) := fun u H locs pc ls h1 h2 h3 h4 h5 => rV (wf := wX9_put k_received k_marks h_ h_received h_marks h_sending h_waveHigh h_waveBeats h_runHigh h_runBeats v_divisor v_clocks v_wanted v_rowsOn v_level v_form v_outputs v_byteKept v_ins v_changed v_sendingMany v_emptyUp v_lateUp v_waveMany v_lineIn v_sends v_sentCharacter v_sentForm v_sentBeat v_senderHigh v_takes v_sawHigh v_takenForm v_takenBeat v_takenBits v_takenParity v_beats v_out v_runs v_thrown v_received_n v_marks_n) hx hb hr hlocks hK h1 h2 h3 h4 h5
  have J29 : ∀ (l1 : Int32) (l2 : Int32) (v_receivedMany : Int32) (v_overrun : Bool) (v_lateCount : Int32) (v_received_a : Nat → Int32) (v_marks_a : Nat → Int32) (H : Heap) (locs : List Loc) (ls : Array Slot), F_X9_put_29 v_rowsOn v_received_n v_marks_n l1 l2 v_receivedMany v_overrun v_lateCount v_received_a v_marks_a = some u0 → lv_has ls 3 [(0, .ref h_), (1, .int l1), (2, .int l2)] → va_P D vwCl [oX9 h_ v_divisor v_clocks v_wanted v_rowsOn v_level v_form v_outputs v_byteKept v_ins v_changed h_received h_marks v_receivedMany v_overrun h_sending v_sendingMany v_emptyUp v_lateUp v_lateCount h_waveHigh h_waveBeats v_waveMany v_lineIn v_sends v_sentCharacter v_sentForm v_sentBeat v_senderHigh v_takes v_sawHigh v_takenForm v_takenBeat v_takenBits v_takenParity v_beats v_out h_runHigh h_runBeats v_runs v_thrown, aI h_received k_received v_received_n v_received_a, aI h_marks k_marks v_marks_n v_marks_a] H → va_D A [oX9 h_ v_divisor v_clocks v_wanted v_rowsOn v_level v_form v_outputs v_byteKept v_ins v_changed h_received h_marks v_receivedMany v_overrun h_sending v_sendingMany v_emptyUp v_lateUp v_lateCount h_waveHigh h_waveBeats v_waveMany v_lineIn v_sends v_sentCharacter v_sentForm v_sentBeat v_senderHigh v_takes v_sawHigh v_takenForm v_takenBeat v_takenBits v_takenParity v_beats v_out h_runHigh h_runBeats v_runs v_thrown, aI h_received k_received v_received_n v_received_a, aI h_marks k_marks v_marks_n v_marks_a] → va_S A s.heap H locs → W p l e { frames := 1, cells := 0, slots := 0, locals := 20 } s m args below meth c H locs 0 0 (QV below D [(k_received, .int), (k_marks, .int)] (wX9_put k_received k_marks h_ h_received h_marks h_sending h_waveHigh h_waveBeats h_runHigh h_runBeats v_divisor v_clocks v_wanted v_rowsOn v_level v_form v_outputs v_byteKept v_ins v_changed v_sendingMany v_emptyUp v_lateUp v_waveMany v_lineIn v_sends v_sentCharacter v_sentForm v_sentBeat v_senderHigh v_takes v_sawHigh v_takenForm v_takenBeat v_takenBits v_takenParity v_beats v_out v_runs v_thrown v_received_n v_marks_n u0) args s A) (F0 m 29 ls []) := by
    intro l1 l2 v_receivedMany v_overrun v_lateCount v_received_a v_marks_a H locs ls hF hl hP hD hS
    unfold F_X9_put_29 at hF
    refine lv_aload_n hx hb dX9_put_29 rfl (lv_at hl 0 rfl) ?_
    refine va_get (D := D) (ci := 8) (v := .ref h_received) (C := RX9) (T := TX9) (N := 40) hx hb hts i_X9 hown hK hP 0 rfl rfl 10 (Nat.le_of_ble_eq_true rfl) f_9 (fun _ h9 => h9) rfl dX9_put_30 ?_
    refine lv_aload_n hx hb dX9_put_33 rfl (lv_at hl 0 rfl) ?_
    refine va_get (D := D) (ci := 8) (v := .int v_receivedMany) (C := RX9) (T := TX9) (N := 40) hx hb hts i_X9 hown hK hP 0 rfl rfl 12 (Nat.le_of_ble_eq_true rfl) f_70 (fun _ h9 => h9) rfl dX9_put_34 ?_
    refine lv_iload_n hx hb dX9_put_37 rfl (lv_at hl 1 rfl) ?_
    obtain ⟨g1, hF⟩ := gd_el hF
    refine ias (ws' := [oX9 h_ v_divisor v_clocks v_wanted v_rowsOn v_level v_form v_outputs v_byteKept v_ins v_changed h_received h_marks v_receivedMany v_overrun h_sending v_sendingMany v_emptyUp v_lateUp v_lateCount h_waveHigh h_waveBeats v_waveMany v_lineIn v_sends v_sentCharacter v_sentForm v_sentBeat v_senderHigh v_takes v_sawHigh v_takenForm v_takenBeat v_takenBits v_takenParity v_beats v_out h_runHigh h_runBeats v_runs v_thrown, aI h_received k_received v_received_n (upd v_received_a (v_receivedMany.toNatClampNeg) l1), aI h_marks k_marks v_marks_n v_marks_a]) hx hb hK hP hD hS 1 0 rfl rfl g1 rfl dX9_put_38 (fun H locs hP hD hS => ?_)
    refine lv_aload_n hx hb dX9_put_39 rfl (lv_at hl 0 rfl) ?_
    refine va_get (D := D) (ci := 8) (v := .ref h_marks) (C := RX9) (T := TX9) (N := 40) hx hb hts i_X9 hown hK hP 0 rfl rfl 11 (Nat.le_of_ble_eq_true rfl) f_13 (fun _ h9 => h9) rfl dX9_put_40 ?_
    refine lv_aload_n hx hb dX9_put_43 rfl (lv_at hl 0 rfl) ?_
    refine va_get (D := D) (ci := 8) (v := .int v_receivedMany) (C := RX9) (T := TX9) (N := 40) hx hb hts i_X9 hown hK hP 0 rfl rfl 12 (Nat.le_of_ble_eq_true rfl) f_70 (fun _ h9 => h9) rfl dX9_put_44 ?_
    refine lv_iload_n hx hb dX9_put_47 rfl (lv_at hl 2 rfl) ?_
    obtain ⟨g2, hF⟩ := gd_el hF
    refine ias (ws' := [oX9 h_ v_divisor v_clocks v_wanted v_rowsOn v_level v_form v_outputs v_byteKept v_ins v_changed h_received h_marks v_receivedMany v_overrun h_sending v_sendingMany v_emptyUp v_lateUp v_lateCount h_waveHigh h_waveBeats v_waveMany v_lineIn v_sends v_sentCharacter v_sentForm v_sentBeat v_senderHigh v_takes v_sawHigh v_takenForm v_takenBeat v_takenBits v_takenParity v_beats v_out h_runHigh h_runBeats v_runs v_thrown, aI h_received k_received v_received_n (upd v_received_a (v_receivedMany.toNatClampNeg) l1), aI h_marks k_marks v_marks_n (upd v_marks_a (v_receivedMany.toNatClampNeg) l2)]) hx hb hK hP hD hS 2 1 rfl rfl g2 rfl dX9_put_48 (fun H locs hP hD hS => ?_)
    refine lv_aload_n hx hb dX9_put_49 rfl (lv_at hl 0 rfl) ?_
    refine lv_dup hx hb dX9_put_50 rfl ?_
    refine va_get (D := D) (ci := 8) (v := .int v_receivedMany) (C := RX9) (T := TX9) (N := 40) hx hb hts i_X9 hown hK hP 0 rfl rfl 12 (Nat.le_of_ble_eq_true rfl) f_70 (fun _ h9 => h9) rfl dX9_put_51 ?_
    refine lv_iconst (v := 1) hx hb dX9_put_54 (by decide) ?_
    refine lv_iadd hx hb dX9_put_55 ?_
    refine lv_topi (fun x3 ex3 => ?_)
    replace hF := lt1_x ex3 hF
    refine pf (ci := 8) (v := .int x3) (ty := .int) (C := RX9) (T := TX9) (N := 40) (ws' := [oX9 h_ v_divisor v_clocks v_wanted v_rowsOn v_level v_form v_outputs v_byteKept v_ins v_changed h_received h_marks x3 v_overrun h_sending v_sendingMany v_emptyUp v_lateUp v_lateCount h_waveHigh h_waveBeats v_waveMany v_lineIn v_sends v_sentCharacter v_sentForm v_sentBeat v_senderHigh v_takes v_sawHigh v_takenForm v_takenBeat v_takenBits v_takenParity v_beats v_out h_runHigh h_runBeats v_runs v_thrown, aI h_received k_received v_received_n (upd v_received_a (v_receivedMany.toNatClampNeg) l1), aI h_marks k_marks v_marks_n (upd v_marks_a (v_receivedMany.toNatClampNeg) l2)]) hx hb hts i_X9 tyX9_ok nmX9 hown hK hP hD hS 0 rfl rfl 12 (Nat.le_of_ble_eq_true rfl) f_70 rfl rfl (by decide +kernel) rfl rfl (Nat.le_of_ble_eq_true rfl) rfl dX9_put_56 (fun H locs hP hD hS => ?_)
    refine lv_aload_n hx hb dX9_put_59 rfl (lv_at hl 0 rfl) ?_
    refine lv_iconst (v := (-1)) hx hb dX9_put_60 (by decide) ?_
    refine pf (ci := 8) (v := .int (-1)) (ty := .int) (C := RX9) (T := TX9) (N := 40) (ws' := [oX9 h_ v_divisor v_clocks v_wanted v_rowsOn v_level v_form v_outputs v_byteKept v_ins v_changed h_received h_marks x3 v_overrun h_sending v_sendingMany v_emptyUp v_lateUp (-1) h_waveHigh h_waveBeats v_waveMany v_lineIn v_sends v_sentCharacter v_sentForm v_sentBeat v_senderHigh v_takes v_sawHigh v_takenForm v_takenBeat v_takenBits v_takenParity v_beats v_out h_runHigh h_runBeats v_runs v_thrown, aI h_received k_received v_received_n (upd v_received_a (v_receivedMany.toNatClampNeg) l1), aI h_marks k_marks v_marks_n (upd v_marks_a (v_receivedMany.toNatClampNeg) l2)]) hx hb hts i_X9 tyX9_ok nmX9 hown hK hP hD hS 0 rfl rfl 18 (Nat.le_of_ble_eq_true rfl) f_85 rfl rfl (by decide +kernel) rfl rfl (Nat.le_of_ble_eq_true rfl) rfl dX9_put_61 (fun H locs hP hD hS => ?_)
    exact hret (x3, v_overrun, (-1), upd v_received_a (v_receivedMany.toNatClampNeg) l1, upd v_marks_a (v_receivedMany.toNatClampNeg) l2) _ _ 64 _ hP hD hS hF dX9_put_64
  unfold F_X9_put at hF
  refine lv_aload_n hx hb dX9_put_0 rfl (lv_at hl 0 rfl) ?_
  refine va_get (D := D) (ci := 8) (v := .int v_receivedMany) (C := RX9) (T := TX9) (N := 40) hx hb hts i_X9 hown hK hP 0 rfl rfl 12 (Nat.le_of_ble_eq_true rfl) f_70 (fun _ h9 => h9) rfl dX9_put_1 ?_
  refine lv_aload_n hx hb dX9_put_4 rfl (lv_at hl 0 rfl) ?_
  obtain ⟨u4, hu4, hF⟩ := bd_el hF
  refine cVI (q0 := 0) (ci := 8) (As := []) (rest := [.int v_receivedMany]) (wr := [aI h_received k_received v_received_n v_received_a, aI h_marks k_marks v_marks_n v_marks_a]) (ws' := [oX9 h_ v_divisor v_clocks v_wanted v_rowsOn v_level v_form v_outputs v_byteKept v_ins v_changed h_received h_marks v_receivedMany v_overrun h_sending v_sendingMany v_emptyUp v_lateUp v_lateCount h_waveHigh h_waveBeats v_waveMany v_lineIn v_sends v_sentCharacter v_sentForm v_sentBeat v_senderHigh v_takes v_sawHigh v_takenForm v_takenBeat v_takenBits v_takenParity v_beats v_out h_runHigh h_runBeats v_runs v_thrown, aI h_received k_received v_received_n v_received_a, aI h_marks k_marks v_marks_n v_marks_a]) (rv := u4) ⟨hx, hb, hml, hown, hts⟩ (mX9_room D h_ h_received h_marks h_sending h_waveHigh h_waveBeats h_runHigh h_runBeats v_divisor v_clocks v_wanted v_rowsOn v_level v_form v_outputs v_byteKept v_ins v_changed v_receivedMany v_overrun v_sendingMany v_emptyUp v_lateUp v_lateCount v_waveMany v_lineIn v_sends v_sentCharacter v_sentForm v_sentBeat v_senderHigh v_takes v_sawHigh v_takenForm v_takenBeat v_takenBits v_takenParity v_beats v_out v_runs v_thrown u4 hu4) (cwV 0 hts gX9_put_X9_room rfl rfl rfl (by decide +kernel) ⟨Nat.le_of_ble_eq_true rfl, Nat.le_of_ble_eq_true rfl⟩) hK hP hD hS hA [] [0] [1, 2] [2, 0, 1] rfl rfl rfl rfl rfl rfl rfl rfl rfl hl.1 rfl (Nat.le_of_ble_eq_true rfl) rfl dX9_put_5 ⟨Nat.le_refl _, Nat.le_refl _⟩ (fun H locs hP hD hS => ?_)
  refine lv_icmp_ne (tgt := 29) hx hb dX9_put_8 (by decide) (fun c5 => ?_) (fun c5 => ?_)
  · replace hF := it_f c5 hF
    exact J29 p1 p2 v_receivedMany v_overrun v_lateCount v_received_a v_marks_a _ _ _ hF hl hP hD hS
  · replace hF := it_t c5 hF
    refine lv_aload_n hx hb dX9_put_11 rfl (lv_at hl 0 rfl) ?_
    refine lv_iconst (v := 1) hx hb dX9_put_12 (by decide) ?_
    refine pf (ci := 8) (v := .int (bI true)) (ty := .boolean) (C := RX9) (T := TX9) (N := 40) (ws' := [oX9 h_ v_divisor v_clocks v_wanted v_rowsOn v_level v_form v_outputs v_byteKept v_ins v_changed h_received h_marks v_receivedMany true h_sending v_sendingMany v_emptyUp v_lateUp v_lateCount h_waveHigh h_waveBeats v_waveMany v_lineIn v_sends v_sentCharacter v_sentForm v_sentBeat v_senderHigh v_takes v_sawHigh v_takenForm v_takenBeat v_takenBits v_takenParity v_beats v_out h_runHigh h_runBeats v_runs v_thrown, aI h_received k_received v_received_n v_received_a, aI h_marks k_marks v_marks_n v_marks_a]) hx hb hts i_X9 tyX9_ok nmX9 hown hK hP hD hS 0 rfl rfl 13 (Nat.le_of_ble_eq_true rfl) f_73 rfl rfl (by decide +kernel) (nar_bI true) (fit_bI true) (Nat.le_of_ble_eq_true rfl) rfl dX9_put_13 (fun H locs hP hD hS => ?_)
    refine lv_aload_n hx hb dX9_put_16 rfl (lv_at hl 0 rfl) ?_
    refine va_get (D := D) (ci := 8) (v := .int (bI v_rowsOn)) (C := RX9) (T := TX9) (N := 40) hx hb hts i_X9 hown hK hP 0 rfl rfl 3 (Nat.le_of_ble_eq_true rfl) f_48 (fun _ h9 => h9) rfl dX9_put_17 ?_
    refine lv_if_eq (tgt := 24) hx hb dX9_put_20 (by decide) (fun c6 => ?_) (fun c6 => ?_)
    · replace hF := bt_f (bI_0 c6) hF
      refine lv_aload_n hx hb dX9_put_24 rfl (lv_at hl 0 rfl) ?_
      refine lv_iconst (v := 0) hx hb dX9_put_25 (by decide) ?_
      refine pf (ci := 8) (v := .int 0) (ty := .int) (C := RX9) (T := TX9) (N := 40) (ws' := [oX9 h_ v_divisor v_clocks v_wanted v_rowsOn v_level v_form v_outputs v_byteKept v_ins v_changed h_received h_marks 0 true h_sending v_sendingMany v_emptyUp v_lateUp v_lateCount h_waveHigh h_waveBeats v_waveMany v_lineIn v_sends v_sentCharacter v_sentForm v_sentBeat v_senderHigh v_takes v_sawHigh v_takenForm v_takenBeat v_takenBits v_takenParity v_beats v_out h_runHigh h_runBeats v_runs v_thrown, aI h_received k_received v_received_n v_received_a, aI h_marks k_marks v_marks_n v_marks_a]) hx hb hts i_X9 tyX9_ok nmX9 hown hK hP hD hS 0 rfl rfl 12 (Nat.le_of_ble_eq_true rfl) f_70 rfl rfl (by decide +kernel) rfl rfl (Nat.le_of_ble_eq_true rfl) rfl dX9_put_26 (fun H locs hP hD hS => ?_)
      exact J29 p1 p2 0 true v_lateCount v_received_a v_marks_a _ _ _ hF hl hP hD hS
    · replace hF := bt_t (bI_n0 c6) hF
      exact hret (v_receivedMany, true, v_lateCount, v_received_a, v_marks_a) _ _ 23 _ hP hD hS hF dX9_put_23
def F_X9_receive_260 (v_rowsOn : Bool) (v_form : Int32) (v_outputs : Int32) (v_lineIn : Bool) (v_senderHigh : Bool) (v_received_n : Nat) (v_marks_n : Nat) (l1 : Bool) (l4 : Int32) (v_receivedMany : Int32) (v_overrun : Bool) (v_lateCount : Int32) (v_takes : Bool) (v_sawHigh : Bool) (v_takenForm : Int32) (v_takenBeat : Int32) (v_takenBits : Int32) (v_takenParity : Int32) (v_received_a : Nat → Int32) (v_marks_a : Nat → Int32) : Option (Int32 × Bool × Int32 × Bool × Bool × Int32 × Int32 × Int32 × Int32 × (Nat → Int32) × (Nat → Int32)) := bd (F_X9_put v_takenBits l4 v_rowsOn v_receivedMany v_overrun v_lateCount v_received_n v_received_a v_marks_n v_marks_a) (fun u1 => some (u1.1, u1.2.1, u1.2.2.1, false, l1, v_takenForm, v_takenBeat, v_takenBits, v_takenParity, u1.2.2.2.1, u1.2.2.2.2))
def F_X9_receive_235 (v_rowsOn : Bool) (v_form : Int32) (v_outputs : Int32) (v_lineIn : Bool) (v_senderHigh : Bool) (v_received_n : Nat) (v_marks_n : Nat) (l1 : Bool) (l4 : Int32) (v_receivedMany : Int32) (v_overrun : Bool) (v_lateCount : Int32) (v_takes : Bool) (v_sawHigh : Bool) (v_takenForm : Int32) (v_takenBeat : Int32) (v_takenBits : Int32) (v_takenParity : Int32) (v_received_a : Nat → Int32) (v_marks_a : Nat → Int32) : Option (Int32 × Bool × Int32 × Bool × Bool × Int32 × Int32 × Int32 × Int32 × (Nat → Int32) × (Nat → Int32)) := bt l1 (F_X9_receive_260 v_rowsOn v_form v_outputs v_lineIn v_senderHigh v_received_n v_marks_n l1 l4 v_receivedMany v_overrun v_lateCount v_takes v_sawHigh v_takenForm v_takenBeat v_takenBits v_takenParity v_received_a v_marks_a) (if v_takenBits = 0 then (if v_takenParity = 0 then (lt1 (l4 ||| 16) (fun x5 => F_X9_receive_260 v_rowsOn v_form v_outputs v_lineIn v_senderHigh v_received_n v_marks_n l1 x5 v_receivedMany v_overrun v_lateCount v_takes v_sawHigh v_takenForm v_takenBeat v_takenBits v_takenParity v_received_a v_marks_a)) else (F_X9_receive_260 v_rowsOn v_form v_outputs v_lineIn v_senderHigh v_received_n v_marks_n l1 l4 v_receivedMany v_overrun v_lateCount v_takes v_sawHigh v_takenForm v_takenBeat v_takenBits v_takenParity v_received_a v_marks_a)) else (F_X9_receive_260 v_rowsOn v_form v_outputs v_lineIn v_senderHigh v_received_n v_marks_n l1 l4 v_receivedMany v_overrun v_lateCount v_takes v_sawHigh v_takenForm v_takenBeat v_takenBits v_takenParity v_received_a v_marks_a))
def F_X9_receive_224 (v_rowsOn : Bool) (v_form : Int32) (v_outputs : Int32) (v_lineIn : Bool) (v_senderHigh : Bool) (v_received_n : Nat) (v_marks_n : Nat) (l1 : Bool) (l4 : Int32) (v_receivedMany : Int32) (v_overrun : Bool) (v_lateCount : Int32) (v_takes : Bool) (v_sawHigh : Bool) (v_takenForm : Int32) (v_takenBeat : Int32) (v_takenBits : Int32) (v_takenParity : Int32) (v_received_a : Nat → Int32) (v_marks_a : Nat → Int32) : Option (Int32 × Bool × Int32 × Bool × Bool × Int32 × Int32 × Int32 × Int32 × (Nat → Int32) × (Nat → Int32)) := bt l1 (F_X9_receive_235 v_rowsOn v_form v_outputs v_lineIn v_senderHigh v_received_n v_marks_n l1 l4 v_receivedMany v_overrun v_lateCount v_takes v_sawHigh v_takenForm v_takenBeat v_takenBits v_takenParity v_received_a v_marks_a) (lt1 (l4 ||| 8) (fun x7 => F_X9_receive_235 v_rowsOn v_form v_outputs v_lineIn v_senderHigh v_received_n v_marks_n l1 x7 v_receivedMany v_overrun v_lateCount v_takes v_sawHigh v_takenForm v_takenBeat v_takenBits v_takenParity v_received_a v_marks_a))
def F_X9_receive_187 (v_rowsOn : Bool) (v_form : Int32) (v_outputs : Int32) (v_lineIn : Bool) (v_senderHigh : Bool) (v_received_n : Nat) (v_marks_n : Nat) (l1 : Bool) (v_receivedMany : Int32) (v_overrun : Bool) (v_lateCount : Int32) (v_takes : Bool) (v_sawHigh : Bool) (v_takenForm : Int32) (v_takenBeat : Int32) (v_takenBits : Int32) (v_takenParity : Int32) (v_received_a : Nat → Int32) (v_marks_a : Nat → Int32) : Option (Int32 × Bool × Int32 × Bool × Bool × Int32 × Int32 × Int32 × Int32 × (Nat → Int32) × (Nat → Int32)) := bd (F_X9_hasParity v_takenForm) (fun u8 => bt u8 (bd (F_X9_parityOf v_takenForm v_takenBits) (fun u10 => if v_takenParity = u10 then (F_X9_receive_224 v_rowsOn v_form v_outputs v_lineIn v_senderHigh v_received_n v_marks_n l1 0 v_receivedMany v_overrun v_lateCount v_takes v_sawHigh v_takenForm v_takenBeat v_takenBits v_takenParity v_received_a v_marks_a) else (lt1 ((0 : Int32) ||| 4) (fun x12 => F_X9_receive_224 v_rowsOn v_form v_outputs v_lineIn v_senderHigh v_received_n v_marks_n l1 x12 v_receivedMany v_overrun v_lateCount v_takes v_sawHigh v_takenForm v_takenBeat v_takenBits v_takenParity v_received_a v_marks_a)))) (F_X9_receive_224 v_rowsOn v_form v_outputs v_lineIn v_senderHigh v_received_n v_marks_n l1 0 v_receivedMany v_overrun v_lateCount v_takes v_sawHigh v_takenForm v_takenBeat v_takenBits v_takenParity v_received_a v_marks_a))
def F_X9_receive_18 (v_rowsOn : Bool) (v_form : Int32) (v_outputs : Int32) (v_lineIn : Bool) (v_senderHigh : Bool) (v_received_n : Nat) (v_marks_n : Nat) (s0 : Bool) (v_receivedMany : Int32) (v_overrun : Bool) (v_lateCount : Int32) (v_takes : Bool) (v_sawHigh : Bool) (v_takenForm : Int32) (v_takenBeat : Int32) (v_takenBits : Int32) (v_takenParity : Int32) (v_received_a : Nat → Int32) (v_marks_a : Nat → Int32) : Option (Int32 × Bool × Int32 × Bool × Bool × Int32 × Int32 × Int32 × Int32 × (Nat → Int32) × (Nat → Int32)) := bt v_takes (lt1 (v_takenBeat + 1) (fun x14 => if (x14 - x14 / 16 * 16) = 7 then (lt1 (x14 / 16) (fun x16 => bd (F_X9_bitsOf v_takenForm) (fun u17 => if x16 = 0 then (bt s0 (some (v_receivedMany, v_overrun, v_lateCount, false, true, v_takenForm, x14, v_takenBits, v_takenParity, v_received_a, v_marks_a)) (some (v_receivedMany, v_overrun, v_lateCount, v_takes, v_sawHigh, v_takenForm, x14, v_takenBits, v_takenParity, v_received_a, v_marks_a))) else (if u17 < x16 then (if x16 = (u17 + 1) then (bd (F_X9_hasParity v_takenForm) (fun u21 => bt u21 (bt s0 (some (v_receivedMany, v_overrun, v_lateCount, v_takes, v_sawHigh, v_takenForm, x14, v_takenBits, 1, v_received_a, v_marks_a)) (some (v_receivedMany, v_overrun, v_lateCount, v_takes, v_sawHigh, v_takenForm, x14, v_takenBits, 0, v_received_a, v_marks_a))) (F_X9_receive_187 v_rowsOn v_form v_outputs v_lineIn v_senderHigh v_received_n v_marks_n s0 v_receivedMany v_overrun v_lateCount v_takes v_sawHigh v_takenForm x14 v_takenBits v_takenParity v_received_a v_marks_a))) else (F_X9_receive_187 v_rowsOn v_form v_outputs v_lineIn v_senderHigh v_received_n v_marks_n s0 v_receivedMany v_overrun v_lateCount v_takes v_sawHigh v_takenForm x14 v_takenBits v_takenParity v_received_a v_marks_a)) else (bt s0 (lt1 (v_takenBits ||| (1 <<< ((x16 - 1) &&& 31))) (fun x25 => some (v_receivedMany, v_overrun, v_lateCount, v_takes, v_sawHigh, v_takenForm, x14, x25, v_takenParity, v_received_a, v_marks_a))) (some (v_receivedMany, v_overrun, v_lateCount, v_takes, v_sawHigh, v_takenForm, x14, v_takenBits, v_takenParity, v_received_a, v_marks_a))))))) else (some (v_receivedMany, v_overrun, v_lateCount, v_takes, v_sawHigh, v_takenForm, x14, v_takenBits, v_takenParity, v_received_a, v_marks_a)))) (bt s0 (some (v_receivedMany, v_overrun, v_lateCount, v_takes, true, v_takenForm, v_takenBeat, v_takenBits, v_takenParity, v_received_a, v_marks_a)) (bt v_sawHigh (some (v_receivedMany, v_overrun, v_lateCount, true, v_sawHigh, v_form, 0, 0, 0, v_received_a, v_marks_a)) (some (v_receivedMany, v_overrun, v_lateCount, v_takes, v_sawHigh, v_takenForm, v_takenBeat, v_takenBits, v_takenParity, v_received_a, v_marks_a))))
def F_X9_receive  (v_rowsOn : Bool) (v_form : Int32) (v_outputs : Int32) (v_receivedMany : Int32) (v_overrun : Bool) (v_lateCount : Int32) (v_lineIn : Bool) (v_senderHigh : Bool) (v_takes : Bool) (v_sawHigh : Bool) (v_takenForm : Int32) (v_takenBeat : Int32) (v_takenBits : Int32) (v_takenParity : Int32) (v_received_n : Nat) (v_received_a : Nat → Int32) (v_marks_n : Nat) (v_marks_a : Nat → Int32) : Option (Int32 × Bool × Int32 × Bool × Bool × Int32 × Int32 × Int32 × Int32 × (Nat → Int32) × (Nat → Int32)) := bd (F_X9_loops v_outputs) (fun u29 => bt u29 (F_X9_receive_18 v_rowsOn v_form v_outputs v_lineIn v_senderHigh v_received_n v_marks_n v_senderHigh v_receivedMany v_overrun v_lateCount v_takes v_sawHigh v_takenForm v_takenBeat v_takenBits v_takenParity v_received_a v_marks_a) (F_X9_receive_18 v_rowsOn v_form v_outputs v_lineIn v_senderHigh v_received_n v_marks_n v_lineIn v_receivedMany v_overrun v_lateCount v_takes v_sawHigh v_takenForm v_takenBeat v_takenBits v_takenParity v_received_a v_marks_a))
def wX9_receive (k_received : ClassId) (k_marks : ClassId) (h_ : Nat) (h_received : Nat) (h_marks : Nat) (h_sending : Nat) (h_waveHigh : Nat) (h_waveBeats : Nat) (h_runHigh : Nat) (h_runBeats : Nat) (v_divisor : Int32) (v_clocks : Int32) (v_wanted : Int32) (v_rowsOn : Bool) (v_level : Int32) (v_form : Int32) (v_outputs : Int32) (v_byteKept : Int32) (v_ins : Int32) (v_changed : Int32) (v_sendingMany : Int32) (v_emptyUp : Bool) (v_lateUp : Bool) (v_waveMany : Int32) (v_lineIn : Bool) (v_sends : Bool) (v_sentCharacter : Int32) (v_sentForm : Int32) (v_sentBeat : Int32) (v_senderHigh : Bool) (v_beats : Int32) (v_out : Bool) (v_runs : Int32) (v_thrown : Int32) (v_received_n : Nat) (v_marks_n : Nat) (u : Int32 × Bool × Int32 × Bool × Bool × Int32 × Int32 × Int32 × Int32 × (Nat → Int32) × (Nat → Int32)) : va_W := [oX9 h_ v_divisor v_clocks v_wanted v_rowsOn v_level v_form v_outputs v_byteKept v_ins v_changed h_received h_marks u.1 u.2.1 h_sending v_sendingMany v_emptyUp v_lateUp u.2.2.1 h_waveHigh h_waveBeats v_waveMany v_lineIn v_sends v_sentCharacter v_sentForm v_sentBeat v_senderHigh u.2.2.2.1 u.2.2.2.2.1 u.2.2.2.2.2.1 u.2.2.2.2.2.2.1 u.2.2.2.2.2.2.2.1 u.2.2.2.2.2.2.2.2.1 v_beats v_out h_runHigh h_runBeats v_runs v_thrown, aI h_received k_received v_received_n u.2.2.2.2.2.2.2.2.2.1, aI h_marks k_marks v_marks_n u.2.2.2.2.2.2.2.2.2.2]
set_option maxHeartbeats 4000000 in
set_option maxRecDepth 100000 in
theorem mX9_receive {l : Launch} (D : va_G) (k_received : ClassId) (k_marks : ClassId) (h_ : Nat) (h_received : Nat) (h_marks : Nat) (h_sending : Nat) (h_waveHigh : Nat) (h_waveBeats : Nat) (h_runHigh : Nat) (h_runBeats : Nat) (v_divisor : Int32) (v_clocks : Int32) (v_wanted : Int32) (v_rowsOn : Bool) (v_level : Int32) (v_form : Int32) (v_outputs : Int32) (v_byteKept : Int32) (v_ins : Int32) (v_changed : Int32) (v_receivedMany : Int32) (v_overrun : Bool) (v_sendingMany : Int32) (v_emptyUp : Bool) (v_lateUp : Bool) (v_lateCount : Int32) (v_waveMany : Int32) (v_lineIn : Bool) (v_sends : Bool) (v_sentCharacter : Int32) (v_sentForm : Int32) (v_sentBeat : Int32) (v_senderHigh : Bool) (v_takes : Bool) (v_sawHigh : Bool) (v_takenForm : Int32) (v_takenBeat : Int32) (v_takenBits : Int32) (v_takenParity : Int32) (v_beats : Int32) (v_out : Bool) (v_runs : Int32) (v_thrown : Int32) (v_received_n : Nat) (v_received_a : Nat → Int32) (v_marks_n : Nat) (v_marks_a : Nat → Int32) (u0 : Int32 × Bool × Int32 × Bool × Bool × Int32 × Int32 × Int32 × Int32 × (Nat → Int32) × (Nat → Int32)) (hF : F_X9_receive v_rowsOn v_form v_outputs v_receivedMany v_overrun v_lateCount v_lineIn v_senderHigh v_takes v_sawHigh v_takenForm v_takenBeat v_takenBits v_takenParity v_received_n v_received_a v_marks_n v_marks_a = some u0) : MV l yX9_receive wsX9_receive { frames := 2, cells := 0, slots := 0, locals := 42 } D [(k_received, .int), (k_marks, .int)] [.ref h_] [oX9 h_ v_divisor v_clocks v_wanted v_rowsOn v_level v_form v_outputs v_byteKept v_ins v_changed h_received h_marks v_receivedMany v_overrun h_sending v_sendingMany v_emptyUp v_lateUp v_lateCount h_waveHigh h_waveBeats v_waveMany v_lineIn v_sends v_sentCharacter v_sentForm v_sentBeat v_senderHigh v_takes v_sawHigh v_takenForm v_takenBeat v_takenBits v_takenParity v_beats v_out h_runHigh h_runBeats v_runs v_thrown, aI h_received k_received v_received_n v_received_a, aI h_marks k_marks v_marks_n v_marks_a] (wX9_receive k_received k_marks h_ h_received h_marks h_sending h_waveHigh h_waveBeats h_runHigh h_runBeats v_divisor v_clocks v_wanted v_rowsOn v_level v_form v_outputs v_byteKept v_ins v_changed v_sendingMany v_emptyUp v_lateUp v_waveMany v_lineIn v_sends v_sentCharacter v_sentForm v_sentBeat v_senderHigh v_beats v_out v_runs v_thrown v_received_n v_marks_n u0) := by
  refine MV.ofW (cc := cX9_receive) (maxL := 5) (ret := none) (lv := [(0, .ref h_)]) (by decide +kernel) rfl (Nat.le_of_ble_eq_true rfl) rfl ?_
  intro p e s m args below meth c A ls hx hb hr hml hts hown hlocks hA hK hP hD hS hl
  replace hown : s.vm.findClass RX9 = some m.cls := hown
  have i_X9 : ∀ w ∈ wsX90, w ∈ wsX9_receive := by decide +kernel
  have f_55 := hts (.fieldLink RX9 55 "SerialPortModel" "form" "I") (by decide +kernel)
  have f_91 := hts (.fieldLink RX9 91 "SerialPortModel" "lineIn" "Z") (by decide +kernel)
  have f_97 := hts (.fieldLink RX9 97 "SerialPortModel" "senderHigh" "Z") (by decide +kernel)
  have f_100 := hts (.fieldLink RX9 100 "SerialPortModel" "takes" "Z") (by decide +kernel)
  have f_103 := hts (.fieldLink RX9 103 "SerialPortModel" "sawHigh" "Z") (by decide +kernel)
  have f_185 := hts (.fieldLink RX9 185 "SerialPortModel" "takenForm" "I") (by decide +kernel)
  have f_188 := hts (.fieldLink RX9 188 "SerialPortModel" "takenBeat" "I") (by decide +kernel)
  have f_191 := hts (.fieldLink RX9 191 "SerialPortModel" "takenBits" "I") (by decide +kernel)
  have f_194 := hts (.fieldLink RX9 194 "SerialPortModel" "takenParity" "I") (by decide +kernel)
  have hret : ∀ (u : Int32 × Bool × Int32 × Bool × Bool × Int32 × Int32 × Int32 × Int32 × (Nat → Int32) × (Nat → Int32)) (H : Heap) (locs : List Loc) (pc : Nat) (ls : Array Slot), va_P D vwCl (wX9_receive k_received k_marks h_ h_received h_marks h_sending h_waveHigh h_waveBeats h_runHigh h_runBeats v_divisor v_clocks v_wanted v_rowsOn v_level v_form v_outputs v_byteKept v_ins v_changed v_sendingMany v_emptyUp v_lateUp v_waveMany v_lineIn v_sends v_sentCharacter v_sentForm v_sentBeat v_senderHigh v_beats v_out v_runs v_thrown v_received_n v_marks_n u) H → va_D A (wX9_receive k_received k_marks h_ h_received h_marks h_sending h_waveHigh h_waveBeats h_runHigh h_runBeats v_divisor v_clocks v_wanted v_rowsOn v_level v_form v_outputs v_byteKept v_ins v_changed v_sendingMany v_emptyUp v_lateUp v_waveMany v_lineIn v_sends v_sentCharacter v_sentForm v_sentBeat v_senderHigh v_beats v_out v_runs v_thrown v_received_n v_marks_n u) → va_S A s.heap H locs → some u = some u0 → decode cX9_receive pc = .ok (.return_, 1) → W p l e { frames := 2, cells := 0, slots := 0, locals := 42 } s m args below meth c H locs 0 0 (QV below D [(k_received, .int), (k_marks, .int)] (wX9_receive k_received k_marks h_ h_received h_marks h_sending h_waveHigh h_waveBeats h_runHigh h_runBeats v_divisor v_clocks v_wanted v_rowsOn v_level v_form v_outputs v_byteKept v_ins v_changed v_sendingMany v_emptyUp v_lateUp v_waveMany v_lineIn v_sends v_sentCharacter v_sentForm v_sentBeat v_senderHigh v_beats v_out v_runs v_thrown v_received_n v_marks_n u0) args s A) (F0 m pc ls []) := fun u H locs pc ls h1 h2 h3 h4 h5 => rV (wf := wX9_receive k_received k_marks h_ h_received h_marks h_sending h_waveHigh h_waveBeats h_runHigh h_runBeats v_divisor v_clocks v_wanted v_rowsOn v_level v_form v_outputs v_byteKept v_ins v_changed v_sendingMany v_emptyUp v_lateUp v_waveMany v_lineIn v_sends v_sentCharacter v_sentForm v_sentBeat v_senderHigh v_beats v_out v_runs v_thrown v_received_n v_marks_n) hx hb hr hlocks hK h1 h2 h3 h4 h5
  have J260 : ∀ (l1 : Bool) (l4 : Int32) (v_receivedMany : Int32) (v_overrun : Bool) (v_lateCount : Int32) (v_takes : Bool) (v_sawHigh : Bool) (v_takenForm : Int32) (v_takenBeat : Int32) (v_takenBits : Int32) (v_takenParity : Int32) (v_received_a : Nat → Int32) (v_marks_a : Nat → Int32) (H : Heap) (locs : List Loc) (ls : Array Slot), F_X9_receive_260 v_rowsOn v_form v_outputs v_lineIn v_senderHigh v_received_n v_marks_n l1 l4 v_receivedMany v_overrun v_lateCount v_takes v_sawHigh v_takenForm v_takenBeat v_takenBits v_takenParity v_received_a v_marks_a = some u0 → lv_has ls 5 [(0, .ref h_), (1, .int (bI l1)), (4, .int l4)] → va_P D vwCl [oX9 h_ v_divisor v_clocks v_wanted v_rowsOn v_level v_form v_outputs v_byteKept v_ins v_changed h_received h_marks v_receivedMany v_overrun h_sending v_sendingMany v_emptyUp v_lateUp v_lateCount h_waveHigh h_waveBeats v_waveMany v_lineIn v_sends v_sentCharacter v_sentForm v_sentBeat v_senderHigh v_takes v_sawHigh v_takenForm v_takenBeat v_takenBits v_takenParity v_beats v_out h_runHigh h_runBeats v_runs v_thrown, aI h_received k_received v_received_n v_received_a, aI h_marks k_marks v_marks_n v_marks_a] H → va_D A [oX9 h_ v_divisor v_clocks v_wanted v_rowsOn v_level v_form v_outputs v_byteKept v_ins v_changed h_received h_marks v_receivedMany v_overrun h_sending v_sendingMany v_emptyUp v_lateUp v_lateCount h_waveHigh h_waveBeats v_waveMany v_lineIn v_sends v_sentCharacter v_sentForm v_sentBeat v_senderHigh v_takes v_sawHigh v_takenForm v_takenBeat v_takenBits v_takenParity v_beats v_out h_runHigh h_runBeats v_runs v_thrown, aI h_received k_received v_received_n v_received_a, aI h_marks k_marks v_marks_n v_marks_a] → va_S A s.heap H locs → W p l e { frames := 2, cells := 0, slots := 0, locals := 42 } s m args below meth c H locs 0 0 (QV below D [(k_received, .int), (k_marks, .int)] (wX9_receive k_received k_marks h_ h_received h_marks h_sending h_waveHigh h_waveBeats h_runHigh h_runBeats v_divisor v_clocks v_wanted v_rowsOn v_level v_form v_outputs v_byteKept v_ins v_changed v_sendingMany v_emptyUp v_lateUp v_waveMany v_lineIn v_sends v_sentCharacter v_sentForm v_sentBeat v_senderHigh v_beats v_out v_runs v_thrown v_received_n v_marks_n u0) args s A) (F0 m 260 ls []) := by
    intro l1 l4 v_receivedMany v_overrun v_lateCount v_takes v_sawHigh v_takenForm v_takenBeat v_takenBits v_takenParity v_received_a v_marks_a H locs ls hF hl hP hD hS
    unfold F_X9_receive_260 at hF
    refine lv_aload_n hx hb dX9_receive_260 rfl (lv_at hl 0 rfl) ?_
    refine lv_iconst (v := 0) hx hb dX9_receive_261 (by decide) ?_
    refine pf (ci := 8) (v := .int (bI false)) (ty := .boolean) (C := RX9) (T := TX9) (N := 40) (ws' := [oX9 h_ v_divisor v_clocks v_wanted v_rowsOn v_level v_form v_outputs v_byteKept v_ins v_changed h_received h_marks v_receivedMany v_overrun h_sending v_sendingMany v_emptyUp v_lateUp v_lateCount h_waveHigh h_waveBeats v_waveMany v_lineIn v_sends v_sentCharacter v_sentForm v_sentBeat v_senderHigh false v_sawHigh v_takenForm v_takenBeat v_takenBits v_takenParity v_beats v_out h_runHigh h_runBeats v_runs v_thrown, aI h_received k_received v_received_n v_received_a, aI h_marks k_marks v_marks_n v_marks_a]) hx hb hts i_X9 tyX9_ok nmX9 hown hK hP hD hS 0 rfl rfl 28 (Nat.le_of_ble_eq_true rfl) f_100 rfl rfl (by decide +kernel) (nar_bI false) (fit_bI false) (Nat.le_of_ble_eq_true rfl) rfl dX9_receive_262 (fun H locs hP hD hS => ?_)
    refine lv_aload_n hx hb dX9_receive_265 rfl (lv_at hl 0 rfl) ?_
    refine lv_iload_n hx hb dX9_receive_266 rfl (lv_at hl 1 rfl) ?_
    refine pf (ci := 8) (v := .int (bI l1)) (ty := .boolean) (C := RX9) (T := TX9) (N := 40) (ws' := [oX9 h_ v_divisor v_clocks v_wanted v_rowsOn v_level v_form v_outputs v_byteKept v_ins v_changed h_received h_marks v_receivedMany v_overrun h_sending v_sendingMany v_emptyUp v_lateUp v_lateCount h_waveHigh h_waveBeats v_waveMany v_lineIn v_sends v_sentCharacter v_sentForm v_sentBeat v_senderHigh false l1 v_takenForm v_takenBeat v_takenBits v_takenParity v_beats v_out h_runHigh h_runBeats v_runs v_thrown, aI h_received k_received v_received_n v_received_a, aI h_marks k_marks v_marks_n v_marks_a]) hx hb hts i_X9 tyX9_ok nmX9 hown hK hP hD hS 0 rfl rfl 29 (Nat.le_of_ble_eq_true rfl) f_103 rfl rfl (by decide +kernel) (nar_bI l1) (fit_bI l1) (Nat.le_of_ble_eq_true rfl) rfl dX9_receive_267 (fun H locs hP hD hS => ?_)
    refine lv_aload_n hx hb dX9_receive_270 rfl (lv_at hl 0 rfl) ?_
    refine lv_aload_n hx hb dX9_receive_271 rfl (lv_at hl 0 rfl) ?_
    refine va_get (D := D) (ci := 8) (v := .int v_takenBits) (C := RX9) (T := TX9) (N := 40) hx hb hts i_X9 hown hK hP 0 rfl rfl 32 (Nat.le_of_ble_eq_true rfl) f_191 (fun _ h9 => h9) rfl dX9_receive_272 ?_
    refine lv_iload hx hb dX9_receive_275 (lv_at hl 2 rfl) ?_
    obtain ⟨u1, hu1, hF⟩ := bd_el hF
    refine cVV (q0 := 0) (ci := 8) (As := [.int v_takenBits, .int l4]) (rest := []) (wr := []) (ws' := [oX9 h_ v_divisor v_clocks v_wanted v_rowsOn v_level v_form v_outputs v_byteKept v_ins v_changed h_received h_marks u1.1 u1.2.1 h_sending v_sendingMany v_emptyUp v_lateUp u1.2.2.1 h_waveHigh h_waveBeats v_waveMany v_lineIn v_sends v_sentCharacter v_sentForm v_sentBeat v_senderHigh false l1 v_takenForm v_takenBeat v_takenBits v_takenParity v_beats v_out h_runHigh h_runBeats v_runs v_thrown, aI h_received k_received v_received_n u1.2.2.2.1, aI h_marks k_marks v_marks_n u1.2.2.2.2]) ⟨hx, hb, hml, hown, hts⟩ (mX9_put D k_received k_marks h_ h_received h_marks h_sending h_waveHigh h_waveBeats h_runHigh h_runBeats v_divisor v_clocks v_wanted v_rowsOn v_level v_form v_outputs v_byteKept v_ins v_changed v_receivedMany v_overrun v_sendingMany v_emptyUp v_lateUp v_lateCount v_waveMany v_lineIn v_sends v_sentCharacter v_sentForm v_sentBeat v_senderHigh false l1 v_takenForm v_takenBeat v_takenBits v_takenParity v_beats v_out v_runs v_thrown v_received_n v_received_a v_marks_n v_marks_a v_takenBits l4 u1 hu1) (cwV 2 hts gX9_receive_X9_put rfl rfl rfl (by decide +kernel) ⟨Nat.le_of_ble_eq_true rfl, Nat.le_of_ble_eq_true rfl⟩) hK hP hD hS hA [0, 1] [0, 1, 2] [] [0, 1, 2] rfl rfl rfl rfl rfl rfl rfl rfl rfl hl.1 rfl (Nat.le_of_ble_eq_true rfl) dX9_receive_277 ⟨Nat.le_refl _, Nat.le_refl _⟩ (fun H locs hP hD hS => ?_)
    exact hret (u1.1, u1.2.1, u1.2.2.1, false, l1, v_takenForm, v_takenBeat, v_takenBits, v_takenParity, u1.2.2.2.1, u1.2.2.2.2) _ _ 280 _ hP hD hS hF dX9_receive_280
  have J235 : ∀ (l1 : Bool) (l4 : Int32) (v_receivedMany : Int32) (v_overrun : Bool) (v_lateCount : Int32) (v_takes : Bool) (v_sawHigh : Bool) (v_takenForm : Int32) (v_takenBeat : Int32) (v_takenBits : Int32) (v_takenParity : Int32) (v_received_a : Nat → Int32) (v_marks_a : Nat → Int32) (H : Heap) (locs : List Loc) (ls : Array Slot), F_X9_receive_235 v_rowsOn v_form v_outputs v_lineIn v_senderHigh v_received_n v_marks_n l1 l4 v_receivedMany v_overrun v_lateCount v_takes v_sawHigh v_takenForm v_takenBeat v_takenBits v_takenParity v_received_a v_marks_a = some u0 → lv_has ls 5 [(0, .ref h_), (1, .int (bI l1)), (4, .int l4)] → va_P D vwCl [oX9 h_ v_divisor v_clocks v_wanted v_rowsOn v_level v_form v_outputs v_byteKept v_ins v_changed h_received h_marks v_receivedMany v_overrun h_sending v_sendingMany v_emptyUp v_lateUp v_lateCount h_waveHigh h_waveBeats v_waveMany v_lineIn v_sends v_sentCharacter v_sentForm v_sentBeat v_senderHigh v_takes v_sawHigh v_takenForm v_takenBeat v_takenBits v_takenParity v_beats v_out h_runHigh h_runBeats v_runs v_thrown, aI h_received k_received v_received_n v_received_a, aI h_marks k_marks v_marks_n v_marks_a] H → va_D A [oX9 h_ v_divisor v_clocks v_wanted v_rowsOn v_level v_form v_outputs v_byteKept v_ins v_changed h_received h_marks v_receivedMany v_overrun h_sending v_sendingMany v_emptyUp v_lateUp v_lateCount h_waveHigh h_waveBeats v_waveMany v_lineIn v_sends v_sentCharacter v_sentForm v_sentBeat v_senderHigh v_takes v_sawHigh v_takenForm v_takenBeat v_takenBits v_takenParity v_beats v_out h_runHigh h_runBeats v_runs v_thrown, aI h_received k_received v_received_n v_received_a, aI h_marks k_marks v_marks_n v_marks_a] → va_S A s.heap H locs → W p l e { frames := 2, cells := 0, slots := 0, locals := 42 } s m args below meth c H locs 0 0 (QV below D [(k_received, .int), (k_marks, .int)] (wX9_receive k_received k_marks h_ h_received h_marks h_sending h_waveHigh h_waveBeats h_runHigh h_runBeats v_divisor v_clocks v_wanted v_rowsOn v_level v_form v_outputs v_byteKept v_ins v_changed v_sendingMany v_emptyUp v_lateUp v_waveMany v_lineIn v_sends v_sentCharacter v_sentForm v_sentBeat v_senderHigh v_beats v_out v_runs v_thrown v_received_n v_marks_n u0) args s A) (F0 m 235 ls []) := by
    intro l1 l4 v_receivedMany v_overrun v_lateCount v_takes v_sawHigh v_takenForm v_takenBeat v_takenBits v_takenParity v_received_a v_marks_a H locs ls hF hl hP hD hS
    unfold F_X9_receive_235 at hF
    refine lv_iload_n hx hb dX9_receive_235 rfl (lv_at hl 1 rfl) ?_
    refine lv_if_ne (tgt := 260) hx hb dX9_receive_236 (by decide) (fun c2 => ?_) (fun c2 => ?_)
    · replace hF := bt_t (bI_n0 c2) hF
      exact J260 l1 l4 v_receivedMany v_overrun v_lateCount v_takes v_sawHigh v_takenForm v_takenBeat v_takenBits v_takenParity v_received_a v_marks_a _ _ _ hF hl hP hD hS
    · replace hF := bt_f (bI_0 c2) hF
      refine lv_aload_n hx hb dX9_receive_239 rfl (lv_at hl 0 rfl) ?_
      refine va_get (D := D) (ci := 8) (v := .int v_takenBits) (C := RX9) (T := TX9) (N := 40) hx hb hts i_X9 hown hK hP 0 rfl rfl 32 (Nat.le_of_ble_eq_true rfl) f_191 (fun _ h9 => h9) rfl dX9_receive_240 ?_
      refine lv_if_ne (tgt := 260) hx hb dX9_receive_243 (by decide) (fun c3 => ?_) (fun c3 => ?_)
      · replace hF := it_f c3 hF
        exact J260 l1 l4 v_receivedMany v_overrun v_lateCount v_takes v_sawHigh v_takenForm v_takenBeat v_takenBits v_takenParity v_received_a v_marks_a _ _ _ hF hl hP hD hS
      · replace hF := it_t c3 hF
        refine lv_aload_n hx hb dX9_receive_246 rfl (lv_at hl 0 rfl) ?_
        refine va_get (D := D) (ci := 8) (v := .int v_takenParity) (C := RX9) (T := TX9) (N := 40) hx hb hts i_X9 hown hK hP 0 rfl rfl 33 (Nat.le_of_ble_eq_true rfl) f_194 (fun _ h9 => h9) rfl dX9_receive_247 ?_
        refine lv_if_ne (tgt := 260) hx hb dX9_receive_250 (by decide) (fun c4 => ?_) (fun c4 => ?_)
        · replace hF := it_f c4 hF
          exact J260 l1 l4 v_receivedMany v_overrun v_lateCount v_takes v_sawHigh v_takenForm v_takenBeat v_takenBits v_takenParity v_received_a v_marks_a _ _ _ hF hl hP hD hS
        · replace hF := it_t c4 hF
          refine lv_iload hx hb dX9_receive_253 (lv_at hl 2 rfl) ?_
          refine lv_bipush (v := 16) hx hb dX9_receive_255 (by decide) ?_
          refine lv_ior hx hb dX9_receive_257 ?_
          refine lv_topi (fun x5 ex5 => ?_)
          replace hF := lt1_x ex5 hF
          refine lv_istore (lv' := [(4, .int x5), (0, .ref h_), (1, .int (bI l1))]) hx hb dX9_receive_258 hl (Nat.le_of_ble_eq_true rfl) rfl (fun ls hl => ?_)
          exact J260 l1 x5 v_receivedMany v_overrun v_lateCount v_takes v_sawHigh v_takenForm v_takenBeat v_takenBits v_takenParity v_received_a v_marks_a _ _ _ hF (lv_sub hl [1, 2, 0] rfl) hP hD hS
  have J224 : ∀ (l1 : Bool) (l4 : Int32) (v_receivedMany : Int32) (v_overrun : Bool) (v_lateCount : Int32) (v_takes : Bool) (v_sawHigh : Bool) (v_takenForm : Int32) (v_takenBeat : Int32) (v_takenBits : Int32) (v_takenParity : Int32) (v_received_a : Nat → Int32) (v_marks_a : Nat → Int32) (H : Heap) (locs : List Loc) (ls : Array Slot), F_X9_receive_224 v_rowsOn v_form v_outputs v_lineIn v_senderHigh v_received_n v_marks_n l1 l4 v_receivedMany v_overrun v_lateCount v_takes v_sawHigh v_takenForm v_takenBeat v_takenBits v_takenParity v_received_a v_marks_a = some u0 → lv_has ls 5 [(0, .ref h_), (1, .int (bI l1)), (4, .int l4)] → va_P D vwCl [oX9 h_ v_divisor v_clocks v_wanted v_rowsOn v_level v_form v_outputs v_byteKept v_ins v_changed h_received h_marks v_receivedMany v_overrun h_sending v_sendingMany v_emptyUp v_lateUp v_lateCount h_waveHigh h_waveBeats v_waveMany v_lineIn v_sends v_sentCharacter v_sentForm v_sentBeat v_senderHigh v_takes v_sawHigh v_takenForm v_takenBeat v_takenBits v_takenParity v_beats v_out h_runHigh h_runBeats v_runs v_thrown, aI h_received k_received v_received_n v_received_a, aI h_marks k_marks v_marks_n v_marks_a] H → va_D A [oX9 h_ v_divisor v_clocks v_wanted v_rowsOn v_level v_form v_outputs v_byteKept v_ins v_changed h_received h_marks v_receivedMany v_overrun h_sending v_sendingMany v_emptyUp v_lateUp v_lateCount h_waveHigh h_waveBeats v_waveMany v_lineIn v_sends v_sentCharacter v_sentForm v_sentBeat v_senderHigh v_takes v_sawHigh v_takenForm v_takenBeat v_takenBits v_takenParity v_beats v_out h_runHigh h_runBeats v_runs v_thrown, aI h_received k_received v_received_n v_received_a, aI h_marks k_marks v_marks_n v_marks_a] → va_S A s.heap H locs → W p l e { frames := 2, cells := 0, slots := 0, locals := 42 } s m args below meth c H locs 0 0 (QV below D [(k_received, .int), (k_marks, .int)] (wX9_receive k_received k_marks h_ h_received h_marks h_sending h_waveHigh h_waveBeats h_runHigh h_runBeats v_divisor v_clocks v_wanted v_rowsOn v_level v_form v_outputs v_byteKept v_ins v_changed v_sendingMany v_emptyUp v_lateUp v_waveMany v_lineIn v_sends v_sentCharacter v_sentForm v_sentBeat v_senderHigh v_beats v_out v_runs v_thrown v_received_n v_marks_n u0) args s A) (F0 m 224 ls []) := by
    intro l1 l4 v_receivedMany v_overrun v_lateCount v_takes v_sawHigh v_takenForm v_takenBeat v_takenBits v_takenParity v_received_a v_marks_a H locs ls hF hl hP hD hS
    unfold F_X9_receive_224 at hF
    refine lv_iload_n hx hb dX9_receive_224 rfl (lv_at hl 1 rfl) ?_
    refine lv_if_ne (tgt := 235) hx hb dX9_receive_225 (by decide) (fun c6 => ?_) (fun c6 => ?_)
    · replace hF := bt_t (bI_n0 c6) hF
      exact J235 l1 l4 v_receivedMany v_overrun v_lateCount v_takes v_sawHigh v_takenForm v_takenBeat v_takenBits v_takenParity v_received_a v_marks_a _ _ _ hF hl hP hD hS
    · replace hF := bt_f (bI_0 c6) hF
      refine lv_iload hx hb dX9_receive_228 (lv_at hl 2 rfl) ?_
      refine lv_bipush (v := 8) hx hb dX9_receive_230 (by decide) ?_
      refine lv_ior hx hb dX9_receive_232 ?_
      refine lv_topi (fun x7 ex7 => ?_)
      replace hF := lt1_x ex7 hF
      refine lv_istore (lv' := [(4, .int x7), (0, .ref h_), (1, .int (bI l1))]) hx hb dX9_receive_233 hl (Nat.le_of_ble_eq_true rfl) rfl (fun ls hl => ?_)
      exact J235 l1 x7 v_receivedMany v_overrun v_lateCount v_takes v_sawHigh v_takenForm v_takenBeat v_takenBits v_takenParity v_received_a v_marks_a _ _ _ hF (lv_sub hl [1, 2, 0] rfl) hP hD hS
  have J187 : ∀ (l1 : Bool) (v_receivedMany : Int32) (v_overrun : Bool) (v_lateCount : Int32) (v_takes : Bool) (v_sawHigh : Bool) (v_takenForm : Int32) (v_takenBeat : Int32) (v_takenBits : Int32) (v_takenParity : Int32) (v_received_a : Nat → Int32) (v_marks_a : Nat → Int32) (H : Heap) (locs : List Loc) (ls : Array Slot), F_X9_receive_187 v_rowsOn v_form v_outputs v_lineIn v_senderHigh v_received_n v_marks_n l1 v_receivedMany v_overrun v_lateCount v_takes v_sawHigh v_takenForm v_takenBeat v_takenBits v_takenParity v_received_a v_marks_a = some u0 → lv_has ls 5 [(0, .ref h_), (1, .int (bI l1))] → va_P D vwCl [oX9 h_ v_divisor v_clocks v_wanted v_rowsOn v_level v_form v_outputs v_byteKept v_ins v_changed h_received h_marks v_receivedMany v_overrun h_sending v_sendingMany v_emptyUp v_lateUp v_lateCount h_waveHigh h_waveBeats v_waveMany v_lineIn v_sends v_sentCharacter v_sentForm v_sentBeat v_senderHigh v_takes v_sawHigh v_takenForm v_takenBeat v_takenBits v_takenParity v_beats v_out h_runHigh h_runBeats v_runs v_thrown, aI h_received k_received v_received_n v_received_a, aI h_marks k_marks v_marks_n v_marks_a] H → va_D A [oX9 h_ v_divisor v_clocks v_wanted v_rowsOn v_level v_form v_outputs v_byteKept v_ins v_changed h_received h_marks v_receivedMany v_overrun h_sending v_sendingMany v_emptyUp v_lateUp v_lateCount h_waveHigh h_waveBeats v_waveMany v_lineIn v_sends v_sentCharacter v_sentForm v_sentBeat v_senderHigh v_takes v_sawHigh v_takenForm v_takenBeat v_takenBits v_takenParity v_beats v_out h_runHigh h_runBeats v_runs v_thrown, aI h_received k_received v_received_n v_received_a, aI h_marks k_marks v_marks_n v_marks_a] → va_S A s.heap H locs → W p l e { frames := 2, cells := 0, slots := 0, locals := 42 } s m args below meth c H locs 0 0 (QV below D [(k_received, .int), (k_marks, .int)] (wX9_receive k_received k_marks h_ h_received h_marks h_sending h_waveHigh h_waveBeats h_runHigh h_runBeats v_divisor v_clocks v_wanted v_rowsOn v_level v_form v_outputs v_byteKept v_ins v_changed v_sendingMany v_emptyUp v_lateUp v_waveMany v_lineIn v_sends v_sentCharacter v_sentForm v_sentBeat v_senderHigh v_beats v_out v_runs v_thrown v_received_n v_marks_n u0) args s A) (F0 m 187 ls []) := by
    intro l1 v_receivedMany v_overrun v_lateCount v_takes v_sawHigh v_takenForm v_takenBeat v_takenBits v_takenParity v_received_a v_marks_a H locs ls hF hl hP hD hS
    unfold F_X9_receive_187 at hF
    refine lv_iconst (v := 0) hx hb dX9_receive_187 (by decide) ?_
    refine lv_istore (lv' := [(4, .int 0), (0, .ref h_), (1, .int (bI l1))]) hx hb dX9_receive_188 hl (Nat.le_of_ble_eq_true rfl) rfl (fun ls hl => ?_)
    refine lv_aload_n hx hb dX9_receive_190 rfl (lv_at hl 1 rfl) ?_
    refine va_get (D := D) (ci := 8) (v := .int v_takenForm) (C := RX9) (T := TX9) (N := 40) hx hb hts i_X9 hown hK hP 0 rfl rfl 30 (Nat.le_of_ble_eq_true rfl) f_185 (fun _ h9 => h9) rfl dX9_receive_191 ?_
    obtain ⟨u8, hu8, hF⟩ := bd_el hF
    refine cSI (As := [.int v_takenForm]) (rest := []) (wr := [oX9 h_ v_divisor v_clocks v_wanted v_rowsOn v_level v_form v_outputs v_byteKept v_ins v_changed h_received h_marks v_receivedMany v_overrun h_sending v_sendingMany v_emptyUp v_lateUp v_lateCount h_waveHigh h_waveBeats v_waveMany v_lineIn v_sends v_sentCharacter v_sentForm v_sentBeat v_senderHigh v_takes v_sawHigh v_takenForm v_takenBeat v_takenBits v_takenParity v_beats v_out h_runHigh h_runBeats v_runs v_thrown, aI h_received k_received v_received_n v_received_a, aI h_marks k_marks v_marks_n v_marks_a]) (ws' := [oX9 h_ v_divisor v_clocks v_wanted v_rowsOn v_level v_form v_outputs v_byteKept v_ins v_changed h_received h_marks v_receivedMany v_overrun h_sending v_sendingMany v_emptyUp v_lateUp v_lateCount h_waveHigh h_waveBeats v_waveMany v_lineIn v_sends v_sentCharacter v_sentForm v_sentBeat v_senderHigh v_takes v_sawHigh v_takenForm v_takenBeat v_takenBits v_takenParity v_beats v_out h_runHigh h_runBeats v_runs v_thrown, aI h_received k_received v_received_n v_received_a, aI h_marks k_marks v_marks_n v_marks_a]) (rv := bI u8) ⟨hx, hb, hml, hown, hts⟩ (mX9_hasParity D v_takenForm u8 hu8) (va_cwS 1 hts gX9_receive_X9_hasParity rfl rfl rfl (by decide +kernel) ⟨Nat.le_of_ble_eq_true rfl, Nat.le_of_ble_eq_true rfl⟩) hK hP hD hS hA [] [] [0, 1, 2] [0, 1, 2] rfl rfl rfl rfl rfl rfl hl.1 rfl (Nat.le_of_ble_eq_true rfl) rfl dX9_receive_194 ⟨Nat.le_refl _, Nat.le_refl _⟩ (fun H locs hP hD hS => ?_)
    refine lv_if_eq (tgt := 224) hx hb dX9_receive_197 (by decide) (fun c9 => ?_) (fun c9 => ?_)
    · replace hF := bt_f (bI_0 c9) hF
      exact J224 l1 0 v_receivedMany v_overrun v_lateCount v_takes v_sawHigh v_takenForm v_takenBeat v_takenBits v_takenParity v_received_a v_marks_a _ _ _ hF (lv_sub hl [1, 2, 0] rfl) hP hD hS
    · replace hF := bt_t (bI_n0 c9) hF
      refine lv_aload_n hx hb dX9_receive_200 rfl (lv_at hl 1 rfl) ?_
      refine va_get (D := D) (ci := 8) (v := .int v_takenParity) (C := RX9) (T := TX9) (N := 40) hx hb hts i_X9 hown hK hP 0 rfl rfl 33 (Nat.le_of_ble_eq_true rfl) f_194 (fun _ h9 => h9) rfl dX9_receive_201 ?_
      refine lv_aload_n hx hb dX9_receive_204 rfl (lv_at hl 1 rfl) ?_
      refine va_get (D := D) (ci := 8) (v := .int v_takenForm) (C := RX9) (T := TX9) (N := 40) hx hb hts i_X9 hown hK hP 0 rfl rfl 30 (Nat.le_of_ble_eq_true rfl) f_185 (fun _ h9 => h9) rfl dX9_receive_205 ?_
      refine lv_aload_n hx hb dX9_receive_208 rfl (lv_at hl 1 rfl) ?_
      refine va_get (D := D) (ci := 8) (v := .int v_takenBits) (C := RX9) (T := TX9) (N := 40) hx hb hts i_X9 hown hK hP 0 rfl rfl 32 (Nat.le_of_ble_eq_true rfl) f_191 (fun _ h9 => h9) rfl dX9_receive_209 ?_
      obtain ⟨u10, hu10, hF⟩ := bd_el hF
      refine cSI (As := [.int v_takenForm, .int v_takenBits]) (rest := [.int v_takenParity]) (wr := [oX9 h_ v_divisor v_clocks v_wanted v_rowsOn v_level v_form v_outputs v_byteKept v_ins v_changed h_received h_marks v_receivedMany v_overrun h_sending v_sendingMany v_emptyUp v_lateUp v_lateCount h_waveHigh h_waveBeats v_waveMany v_lineIn v_sends v_sentCharacter v_sentForm v_sentBeat v_senderHigh v_takes v_sawHigh v_takenForm v_takenBeat v_takenBits v_takenParity v_beats v_out h_runHigh h_runBeats v_runs v_thrown, aI h_received k_received v_received_n v_received_a, aI h_marks k_marks v_marks_n v_marks_a]) (ws' := [oX9 h_ v_divisor v_clocks v_wanted v_rowsOn v_level v_form v_outputs v_byteKept v_ins v_changed h_received h_marks v_receivedMany v_overrun h_sending v_sendingMany v_emptyUp v_lateUp v_lateCount h_waveHigh h_waveBeats v_waveMany v_lineIn v_sends v_sentCharacter v_sentForm v_sentBeat v_senderHigh v_takes v_sawHigh v_takenForm v_takenBeat v_takenBits v_takenParity v_beats v_out h_runHigh h_runBeats v_runs v_thrown, aI h_received k_received v_received_n v_received_a, aI h_marks k_marks v_marks_n v_marks_a]) (rv := u10) ⟨hx, hb, hml, hown, hts⟩ (mX9_parityOf D v_takenForm v_takenBits u10 hu10) (va_cwS 2 hts gX9_receive_X9_parityOf rfl rfl rfl (by decide +kernel) ⟨Nat.le_of_ble_eq_true rfl, Nat.le_of_ble_eq_true rfl⟩) hK hP hD hS hA [] [] [0, 1, 2] [0, 1, 2] rfl rfl rfl rfl rfl rfl hl.1 rfl (Nat.le_of_ble_eq_true rfl) rfl dX9_receive_212 ⟨Nat.le_refl _, Nat.le_refl _⟩ (fun H locs hP hD hS => ?_)
      refine lv_icmp_eq (tgt := 224) hx hb dX9_receive_215 (by decide) (fun c11 => ?_) (fun c11 => ?_)
      · replace hF := it_t c11 hF
        exact J224 l1 0 v_receivedMany v_overrun v_lateCount v_takes v_sawHigh v_takenForm v_takenBeat v_takenBits v_takenParity v_received_a v_marks_a _ _ _ hF (lv_sub hl [1, 2, 0] rfl) hP hD hS
      · replace hF := it_f c11 hF
        refine lv_iload hx hb dX9_receive_218 (lv_at hl 0 rfl) ?_
        refine lv_iconst (v := 4) hx hb dX9_receive_220 (by decide) ?_
        refine lv_ior hx hb dX9_receive_221 ?_
        refine lv_topi (fun x12 ex12 => ?_)
        replace hF := lt1_x ex12 hF
        refine lv_istore (lv' := [(4, .int x12), (0, .ref h_), (1, .int (bI l1))]) hx hb dX9_receive_222 hl (Nat.le_of_ble_eq_true rfl) rfl (fun ls hl => ?_)
        exact J224 l1 x12 v_receivedMany v_overrun v_lateCount v_takes v_sawHigh v_takenForm v_takenBeat v_takenBits v_takenParity v_received_a v_marks_a _ _ _ hF (lv_sub hl [1, 2, 0] rfl) hP hD hS
  have J18 : ∀ (s0 : Bool) (v_receivedMany : Int32) (v_overrun : Bool) (v_lateCount : Int32) (v_takes : Bool) (v_sawHigh : Bool) (v_takenForm : Int32) (v_takenBeat : Int32) (v_takenBits : Int32) (v_takenParity : Int32) (v_received_a : Nat → Int32) (v_marks_a : Nat → Int32) (H : Heap) (locs : List Loc) (ls : Array Slot), F_X9_receive_18 v_rowsOn v_form v_outputs v_lineIn v_senderHigh v_received_n v_marks_n s0 v_receivedMany v_overrun v_lateCount v_takes v_sawHigh v_takenForm v_takenBeat v_takenBits v_takenParity v_received_a v_marks_a = some u0 → lv_has ls 5 [(0, .ref h_)] → va_P D vwCl [oX9 h_ v_divisor v_clocks v_wanted v_rowsOn v_level v_form v_outputs v_byteKept v_ins v_changed h_received h_marks v_receivedMany v_overrun h_sending v_sendingMany v_emptyUp v_lateUp v_lateCount h_waveHigh h_waveBeats v_waveMany v_lineIn v_sends v_sentCharacter v_sentForm v_sentBeat v_senderHigh v_takes v_sawHigh v_takenForm v_takenBeat v_takenBits v_takenParity v_beats v_out h_runHigh h_runBeats v_runs v_thrown, aI h_received k_received v_received_n v_received_a, aI h_marks k_marks v_marks_n v_marks_a] H → va_D A [oX9 h_ v_divisor v_clocks v_wanted v_rowsOn v_level v_form v_outputs v_byteKept v_ins v_changed h_received h_marks v_receivedMany v_overrun h_sending v_sendingMany v_emptyUp v_lateUp v_lateCount h_waveHigh h_waveBeats v_waveMany v_lineIn v_sends v_sentCharacter v_sentForm v_sentBeat v_senderHigh v_takes v_sawHigh v_takenForm v_takenBeat v_takenBits v_takenParity v_beats v_out h_runHigh h_runBeats v_runs v_thrown, aI h_received k_received v_received_n v_received_a, aI h_marks k_marks v_marks_n v_marks_a] → va_S A s.heap H locs → W p l e { frames := 2, cells := 0, slots := 0, locals := 42 } s m args below meth c H locs 0 0 (QV below D [(k_received, .int), (k_marks, .int)] (wX9_receive k_received k_marks h_ h_received h_marks h_sending h_waveHigh h_waveBeats h_runHigh h_runBeats v_divisor v_clocks v_wanted v_rowsOn v_level v_form v_outputs v_byteKept v_ins v_changed v_sendingMany v_emptyUp v_lateUp v_waveMany v_lineIn v_sends v_sentCharacter v_sentForm v_sentBeat v_senderHigh v_beats v_out v_runs v_thrown v_received_n v_marks_n u0) args s A) (F0 m 18 ls [.int (bI s0)]) := by
    intro s0 v_receivedMany v_overrun v_lateCount v_takes v_sawHigh v_takenForm v_takenBeat v_takenBits v_takenParity v_received_a v_marks_a H locs ls hF hl hP hD hS
    unfold F_X9_receive_18 at hF
    refine lv_istore_n (lv' := [(1, .int (bI s0)), (0, .ref h_)]) hx hb dX9_receive_18 rfl hl (Nat.le_of_ble_eq_true rfl) rfl (fun ls hl => ?_)
    refine lv_aload_n hx hb dX9_receive_19 rfl (lv_at hl 1 rfl) ?_
    refine va_get (D := D) (ci := 8) (v := .int (bI v_takes)) (C := RX9) (T := TX9) (N := 40) hx hb hts i_X9 hown hK hP 0 rfl rfl 28 (Nat.le_of_ble_eq_true rfl) f_100 (fun _ h9 => h9) rfl dX9_receive_20 ?_
    refine lv_if_ne (tgt := 74) hx hb dX9_receive_23 (by decide) (fun c13 => ?_) (fun c13 => ?_)
    · replace hF := bt_t (bI_n0 c13) hF
      refine lv_aload_n hx hb dX9_receive_74 rfl (lv_at hl 1 rfl) ?_
      refine lv_dup hx hb dX9_receive_75 rfl ?_
      refine va_get (D := D) (ci := 8) (v := .int v_takenBeat) (C := RX9) (T := TX9) (N := 40) hx hb hts i_X9 hown hK hP 0 rfl rfl 31 (Nat.le_of_ble_eq_true rfl) f_188 (fun _ h9 => h9) rfl dX9_receive_76 ?_
      refine lv_iconst (v := 1) hx hb dX9_receive_79 (by decide) ?_
      refine lv_iadd hx hb dX9_receive_80 ?_
      refine lv_topi (fun x14 ex14 => ?_)
      replace hF := lt1_x ex14 hF
      refine pf (ci := 8) (v := .int x14) (ty := .int) (C := RX9) (T := TX9) (N := 40) (ws' := [oX9 h_ v_divisor v_clocks v_wanted v_rowsOn v_level v_form v_outputs v_byteKept v_ins v_changed h_received h_marks v_receivedMany v_overrun h_sending v_sendingMany v_emptyUp v_lateUp v_lateCount h_waveHigh h_waveBeats v_waveMany v_lineIn v_sends v_sentCharacter v_sentForm v_sentBeat v_senderHigh v_takes v_sawHigh v_takenForm x14 v_takenBits v_takenParity v_beats v_out h_runHigh h_runBeats v_runs v_thrown, aI h_received k_received v_received_n v_received_a, aI h_marks k_marks v_marks_n v_marks_a]) hx hb hts i_X9 tyX9_ok nmX9 hown hK hP hD hS 0 rfl rfl 31 (Nat.le_of_ble_eq_true rfl) f_188 rfl rfl (by decide +kernel) rfl rfl (Nat.le_of_ble_eq_true rfl) rfl dX9_receive_81 (fun H locs hP hD hS => ?_)
      refine lv_aload_n hx hb dX9_receive_84 rfl (lv_at hl 1 rfl) ?_
      refine va_get (D := D) (ci := 8) (v := .int x14) (C := RX9) (T := TX9) (N := 40) hx hb hts i_X9 hown hK hP 0 rfl rfl 31 (Nat.le_of_ble_eq_true rfl) f_188 (fun _ h9 => h9) rfl dX9_receive_85 ?_
      refine lv_bipush (v := 16) hx hb dX9_receive_88 (by decide) ?_
      refine lv_irem hx hb dX9_receive_90 (by decide) ?_
      refine lv_bipush (v := 7) hx hb dX9_receive_91 (by decide) ?_
      refine lv_icmp_eq (tgt := 97) hx hb dX9_receive_93 (by decide) (fun c15 => ?_) (fun c15 => ?_)
      · replace hF := it_t c15 hF
        refine lv_aload_n hx hb dX9_receive_97 rfl (lv_at hl 1 rfl) ?_
        refine va_get (D := D) (ci := 8) (v := .int x14) (C := RX9) (T := TX9) (N := 40) hx hb hts i_X9 hown hK hP 0 rfl rfl 31 (Nat.le_of_ble_eq_true rfl) f_188 (fun _ h9 => h9) rfl dX9_receive_98 ?_
        refine lv_bipush (v := 16) hx hb dX9_receive_101 (by decide) ?_
        refine lv_idiv hx hb dX9_receive_103 (by decide) ?_
        refine lv_topi (fun x16 ex16 => ?_)
        replace hF := lt1_x ex16 hF
        refine lv_istore_n (lv' := [(2, .int x16), (1, .int (bI s0)), (0, .ref h_)]) hx hb dX9_receive_104 rfl hl (Nat.le_of_ble_eq_true rfl) rfl (fun ls hl => ?_)
        refine lv_aload_n hx hb dX9_receive_105 rfl (lv_at hl 2 rfl) ?_
        refine va_get (D := D) (ci := 8) (v := .int v_takenForm) (C := RX9) (T := TX9) (N := 40) hx hb hts i_X9 hown hK hP 0 rfl rfl 30 (Nat.le_of_ble_eq_true rfl) f_185 (fun _ h9 => h9) rfl dX9_receive_106 ?_
        obtain ⟨u17, hu17, hF⟩ := bd_el hF
        refine cSI (As := [.int v_takenForm]) (rest := []) (wr := [oX9 h_ v_divisor v_clocks v_wanted v_rowsOn v_level v_form v_outputs v_byteKept v_ins v_changed h_received h_marks v_receivedMany v_overrun h_sending v_sendingMany v_emptyUp v_lateUp v_lateCount h_waveHigh h_waveBeats v_waveMany v_lineIn v_sends v_sentCharacter v_sentForm v_sentBeat v_senderHigh v_takes v_sawHigh v_takenForm x14 v_takenBits v_takenParity v_beats v_out h_runHigh h_runBeats v_runs v_thrown, aI h_received k_received v_received_n v_received_a, aI h_marks k_marks v_marks_n v_marks_a]) (ws' := [oX9 h_ v_divisor v_clocks v_wanted v_rowsOn v_level v_form v_outputs v_byteKept v_ins v_changed h_received h_marks v_receivedMany v_overrun h_sending v_sendingMany v_emptyUp v_lateUp v_lateCount h_waveHigh h_waveBeats v_waveMany v_lineIn v_sends v_sentCharacter v_sentForm v_sentBeat v_senderHigh v_takes v_sawHigh v_takenForm x14 v_takenBits v_takenParity v_beats v_out h_runHigh h_runBeats v_runs v_thrown, aI h_received k_received v_received_n v_received_a, aI h_marks k_marks v_marks_n v_marks_a]) (rv := u17) ⟨hx, hb, hml, hown, hts⟩ (mX9_bitsOf D v_takenForm u17 hu17) (va_cwS 1 hts gX9_receive_X9_bitsOf rfl rfl rfl (by decide +kernel) ⟨Nat.le_of_ble_eq_true rfl, Nat.le_of_ble_eq_true rfl⟩) hK hP hD hS hA [] [] [0, 1, 2] [0, 1, 2] rfl rfl rfl rfl rfl rfl hl.1 rfl (Nat.le_of_ble_eq_true rfl) rfl dX9_receive_109 ⟨Nat.le_refl _, Nat.le_refl _⟩ (fun H locs hP hD hS => ?_)
        refine lv_istore_n (lv' := [(3, .int u17), (2, .int x16), (1, .int (bI s0)), (0, .ref h_)]) hx hb dX9_receive_112 rfl hl (Nat.le_of_ble_eq_true rfl) rfl (fun ls hl => ?_)
        refine lv_iload_n hx hb dX9_receive_113 rfl (lv_at hl 1 rfl) ?_
        refine lv_if_ne (tgt := 132) hx hb dX9_receive_114 (by decide) (fun c18 => ?_) (fun c18 => ?_)
        · replace hF := it_f c18 hF
          refine lv_iload_n hx hb dX9_receive_132 rfl (lv_at hl 1 rfl) ?_
          refine lv_iload_n hx hb dX9_receive_133 rfl (lv_at hl 0 rfl) ?_
          refine lv_icmp_gt (tgt := 156) hx hb dX9_receive_134 (by decide) (fun c19 => ?_) (fun c19 => ?_)
          · replace hF := it_t c19 hF
            refine lv_iload_n hx hb dX9_receive_156 rfl (lv_at hl 1 rfl) ?_
            refine lv_iload_n hx hb dX9_receive_157 rfl (lv_at hl 0 rfl) ?_
            refine lv_iconst (v := 1) hx hb dX9_receive_158 (by decide) ?_
            refine lv_iadd hx hb dX9_receive_159 ?_
            refine lv_icmp_ne (tgt := 187) hx hb dX9_receive_160 (by decide) (fun c20 => ?_) (fun c20 => ?_)
            · replace hF := it_f c20 hF
              exact J187 s0 v_receivedMany v_overrun v_lateCount v_takes v_sawHigh v_takenForm x14 v_takenBits v_takenParity v_received_a v_marks_a _ _ _ hF (lv_sub hl [3, 2] rfl) hP hD hS
            · replace hF := it_t c20 hF
              refine lv_aload_n hx hb dX9_receive_163 rfl (lv_at hl 3 rfl) ?_
              refine va_get (D := D) (ci := 8) (v := .int v_takenForm) (C := RX9) (T := TX9) (N := 40) hx hb hts i_X9 hown hK hP 0 rfl rfl 30 (Nat.le_of_ble_eq_true rfl) f_185 (fun _ h9 => h9) rfl dX9_receive_164 ?_
              obtain ⟨u21, hu21, hF⟩ := bd_el hF
              refine cSI (As := [.int v_takenForm]) (rest := []) (wr := [oX9 h_ v_divisor v_clocks v_wanted v_rowsOn v_level v_form v_outputs v_byteKept v_ins v_changed h_received h_marks v_receivedMany v_overrun h_sending v_sendingMany v_emptyUp v_lateUp v_lateCount h_waveHigh h_waveBeats v_waveMany v_lineIn v_sends v_sentCharacter v_sentForm v_sentBeat v_senderHigh v_takes v_sawHigh v_takenForm x14 v_takenBits v_takenParity v_beats v_out h_runHigh h_runBeats v_runs v_thrown, aI h_received k_received v_received_n v_received_a, aI h_marks k_marks v_marks_n v_marks_a]) (ws' := [oX9 h_ v_divisor v_clocks v_wanted v_rowsOn v_level v_form v_outputs v_byteKept v_ins v_changed h_received h_marks v_receivedMany v_overrun h_sending v_sendingMany v_emptyUp v_lateUp v_lateCount h_waveHigh h_waveBeats v_waveMany v_lineIn v_sends v_sentCharacter v_sentForm v_sentBeat v_senderHigh v_takes v_sawHigh v_takenForm x14 v_takenBits v_takenParity v_beats v_out h_runHigh h_runBeats v_runs v_thrown, aI h_received k_received v_received_n v_received_a, aI h_marks k_marks v_marks_n v_marks_a]) (rv := bI u21) ⟨hx, hb, hml, hown, hts⟩ (mX9_hasParity D v_takenForm u21 hu21) (va_cwS 1 hts gX9_receive_X9_hasParity rfl rfl rfl (by decide +kernel) ⟨Nat.le_of_ble_eq_true rfl, Nat.le_of_ble_eq_true rfl⟩) hK hP hD hS hA [] [] [0, 1, 2] [0, 1, 2] rfl rfl rfl rfl rfl rfl hl.1 rfl (Nat.le_of_ble_eq_true rfl) rfl dX9_receive_167 ⟨Nat.le_refl _, Nat.le_refl _⟩ (fun H locs hP hD hS => ?_)
              refine lv_if_eq (tgt := 187) hx hb dX9_receive_170 (by decide) (fun c22 => ?_) (fun c22 => ?_)
              · replace hF := bt_f (bI_0 c22) hF
                exact J187 s0 v_receivedMany v_overrun v_lateCount v_takes v_sawHigh v_takenForm x14 v_takenBits v_takenParity v_received_a v_marks_a _ _ _ hF (lv_sub hl [3, 2] rfl) hP hD hS
              · replace hF := bt_t (bI_n0 c22) hF
                refine lv_aload_n hx hb dX9_receive_173 rfl (lv_at hl 3 rfl) ?_
                refine lv_iload_n hx hb dX9_receive_174 rfl (lv_at hl 2 rfl) ?_
                refine lv_if_eq (tgt := 182) hx hb dX9_receive_175 (by decide) (fun c23 => ?_) (fun c23 => ?_)
                · replace hF := bt_f (bI_0 c23) hF
                  refine lv_iconst (v := 0) hx hb dX9_receive_182 (by decide) ?_
                  refine pf (ci := 8) (v := .int 0) (ty := .int) (C := RX9) (T := TX9) (N := 40) (ws' := [oX9 h_ v_divisor v_clocks v_wanted v_rowsOn v_level v_form v_outputs v_byteKept v_ins v_changed h_received h_marks v_receivedMany v_overrun h_sending v_sendingMany v_emptyUp v_lateUp v_lateCount h_waveHigh h_waveBeats v_waveMany v_lineIn v_sends v_sentCharacter v_sentForm v_sentBeat v_senderHigh v_takes v_sawHigh v_takenForm x14 v_takenBits 0 v_beats v_out h_runHigh h_runBeats v_runs v_thrown, aI h_received k_received v_received_n v_received_a, aI h_marks k_marks v_marks_n v_marks_a]) hx hb hts i_X9 tyX9_ok nmX9 hown hK hP hD hS 0 rfl rfl 33 (Nat.le_of_ble_eq_true rfl) f_194 rfl rfl (by decide +kernel) rfl rfl (Nat.le_of_ble_eq_true rfl) rfl dX9_receive_183 (fun H locs hP hD hS => ?_)
                  exact hret (v_receivedMany, v_overrun, v_lateCount, v_takes, v_sawHigh, v_takenForm, x14, v_takenBits, 0, v_received_a, v_marks_a) _ _ 186 _ hP hD hS hF dX9_receive_186
                · replace hF := bt_t (bI_n0 c23) hF
                  refine lv_iconst (v := 1) hx hb dX9_receive_178 (by decide) ?_
                  refine lv_goto (tgt := 183) hx hb dX9_receive_179 (by decide) ?_
                  refine pf (ci := 8) (v := .int 1) (ty := .int) (C := RX9) (T := TX9) (N := 40) (ws' := [oX9 h_ v_divisor v_clocks v_wanted v_rowsOn v_level v_form v_outputs v_byteKept v_ins v_changed h_received h_marks v_receivedMany v_overrun h_sending v_sendingMany v_emptyUp v_lateUp v_lateCount h_waveHigh h_waveBeats v_waveMany v_lineIn v_sends v_sentCharacter v_sentForm v_sentBeat v_senderHigh v_takes v_sawHigh v_takenForm x14 v_takenBits 1 v_beats v_out h_runHigh h_runBeats v_runs v_thrown, aI h_received k_received v_received_n v_received_a, aI h_marks k_marks v_marks_n v_marks_a]) hx hb hts i_X9 tyX9_ok nmX9 hown hK hP hD hS 0 rfl rfl 33 (Nat.le_of_ble_eq_true rfl) f_194 rfl rfl (by decide +kernel) rfl rfl (Nat.le_of_ble_eq_true rfl) rfl dX9_receive_183 (fun H locs hP hD hS => ?_)
                  exact hret (v_receivedMany, v_overrun, v_lateCount, v_takes, v_sawHigh, v_takenForm, x14, v_takenBits, 1, v_received_a, v_marks_a) _ _ 186 _ hP hD hS hF dX9_receive_186
          · replace hF := it_f c19 hF
            refine lv_iload_n hx hb dX9_receive_137 rfl (lv_at hl 2 rfl) ?_
            refine lv_if_eq (tgt := 155) hx hb dX9_receive_138 (by decide) (fun c24 => ?_) (fun c24 => ?_)
            · replace hF := bt_f (bI_0 c24) hF
              exact hret (v_receivedMany, v_overrun, v_lateCount, v_takes, v_sawHigh, v_takenForm, x14, v_takenBits, v_takenParity, v_received_a, v_marks_a) _ _ 155 _ hP hD hS hF dX9_receive_155
            · replace hF := bt_t (bI_n0 c24) hF
              refine lv_aload_n hx hb dX9_receive_141 rfl (lv_at hl 3 rfl) ?_
              refine lv_dup hx hb dX9_receive_142 rfl ?_
              refine va_get (D := D) (ci := 8) (v := .int v_takenBits) (C := RX9) (T := TX9) (N := 40) hx hb hts i_X9 hown hK hP 0 rfl rfl 32 (Nat.le_of_ble_eq_true rfl) f_191 (fun _ h9 => h9) rfl dX9_receive_143 ?_
              refine lv_iconst (v := 1) hx hb dX9_receive_146 (by decide) ?_
              refine lv_iload_n hx hb dX9_receive_147 rfl (lv_at hl 1 rfl) ?_
              refine lv_iconst (v := 1) hx hb dX9_receive_148 (by decide) ?_
              refine lv_isub hx hb dX9_receive_149 ?_
              refine lv_ishl hx hb dX9_receive_150 ?_
              refine lv_ior hx hb dX9_receive_151 ?_
              refine lv_topi (fun x25 ex25 => ?_)
              replace hF := lt1_x ex25 hF
              refine pf (ci := 8) (v := .int x25) (ty := .int) (C := RX9) (T := TX9) (N := 40) (ws' := [oX9 h_ v_divisor v_clocks v_wanted v_rowsOn v_level v_form v_outputs v_byteKept v_ins v_changed h_received h_marks v_receivedMany v_overrun h_sending v_sendingMany v_emptyUp v_lateUp v_lateCount h_waveHigh h_waveBeats v_waveMany v_lineIn v_sends v_sentCharacter v_sentForm v_sentBeat v_senderHigh v_takes v_sawHigh v_takenForm x14 x25 v_takenParity v_beats v_out h_runHigh h_runBeats v_runs v_thrown, aI h_received k_received v_received_n v_received_a, aI h_marks k_marks v_marks_n v_marks_a]) hx hb hts i_X9 tyX9_ok nmX9 hown hK hP hD hS 0 rfl rfl 32 (Nat.le_of_ble_eq_true rfl) f_191 rfl rfl (by decide +kernel) rfl rfl (Nat.le_of_ble_eq_true rfl) rfl dX9_receive_152 (fun H locs hP hD hS => ?_)
              exact hret (v_receivedMany, v_overrun, v_lateCount, v_takes, v_sawHigh, v_takenForm, x14, x25, v_takenParity, v_received_a, v_marks_a) _ _ 155 _ hP hD hS hF dX9_receive_155
        · replace hF := it_t c18 hF
          refine lv_iload_n hx hb dX9_receive_117 rfl (lv_at hl 2 rfl) ?_
          refine lv_if_eq (tgt := 131) hx hb dX9_receive_118 (by decide) (fun c26 => ?_) (fun c26 => ?_)
          · replace hF := bt_f (bI_0 c26) hF
            exact hret (v_receivedMany, v_overrun, v_lateCount, v_takes, v_sawHigh, v_takenForm, x14, v_takenBits, v_takenParity, v_received_a, v_marks_a) _ _ 131 _ hP hD hS hF dX9_receive_131
          · replace hF := bt_t (bI_n0 c26) hF
            refine lv_aload_n hx hb dX9_receive_121 rfl (lv_at hl 3 rfl) ?_
            refine lv_iconst (v := 0) hx hb dX9_receive_122 (by decide) ?_
            refine pf (ci := 8) (v := .int (bI false)) (ty := .boolean) (C := RX9) (T := TX9) (N := 40) (ws' := [oX9 h_ v_divisor v_clocks v_wanted v_rowsOn v_level v_form v_outputs v_byteKept v_ins v_changed h_received h_marks v_receivedMany v_overrun h_sending v_sendingMany v_emptyUp v_lateUp v_lateCount h_waveHigh h_waveBeats v_waveMany v_lineIn v_sends v_sentCharacter v_sentForm v_sentBeat v_senderHigh false v_sawHigh v_takenForm x14 v_takenBits v_takenParity v_beats v_out h_runHigh h_runBeats v_runs v_thrown, aI h_received k_received v_received_n v_received_a, aI h_marks k_marks v_marks_n v_marks_a]) hx hb hts i_X9 tyX9_ok nmX9 hown hK hP hD hS 0 rfl rfl 28 (Nat.le_of_ble_eq_true rfl) f_100 rfl rfl (by decide +kernel) (nar_bI false) (fit_bI false) (Nat.le_of_ble_eq_true rfl) rfl dX9_receive_123 (fun H locs hP hD hS => ?_)
            refine lv_aload_n hx hb dX9_receive_126 rfl (lv_at hl 3 rfl) ?_
            refine lv_iconst (v := 1) hx hb dX9_receive_127 (by decide) ?_
            refine pf (ci := 8) (v := .int (bI true)) (ty := .boolean) (C := RX9) (T := TX9) (N := 40) (ws' := [oX9 h_ v_divisor v_clocks v_wanted v_rowsOn v_level v_form v_outputs v_byteKept v_ins v_changed h_received h_marks v_receivedMany v_overrun h_sending v_sendingMany v_emptyUp v_lateUp v_lateCount h_waveHigh h_waveBeats v_waveMany v_lineIn v_sends v_sentCharacter v_sentForm v_sentBeat v_senderHigh false true v_takenForm x14 v_takenBits v_takenParity v_beats v_out h_runHigh h_runBeats v_runs v_thrown, aI h_received k_received v_received_n v_received_a, aI h_marks k_marks v_marks_n v_marks_a]) hx hb hts i_X9 tyX9_ok nmX9 hown hK hP hD hS 0 rfl rfl 29 (Nat.le_of_ble_eq_true rfl) f_103 rfl rfl (by decide +kernel) (nar_bI true) (fit_bI true) (Nat.le_of_ble_eq_true rfl) rfl dX9_receive_128 (fun H locs hP hD hS => ?_)
            exact hret (v_receivedMany, v_overrun, v_lateCount, false, true, v_takenForm, x14, v_takenBits, v_takenParity, v_received_a, v_marks_a) _ _ 131 _ hP hD hS hF dX9_receive_131
      · replace hF := it_f c15 hF
        exact hret (v_receivedMany, v_overrun, v_lateCount, v_takes, v_sawHigh, v_takenForm, x14, v_takenBits, v_takenParity, v_received_a, v_marks_a) _ _ 96 _ hP hD hS hF dX9_receive_96
    · replace hF := bt_f (bI_0 c13) hF
      refine lv_iload_n hx hb dX9_receive_26 rfl (lv_at hl 0 rfl) ?_
      refine lv_if_eq (tgt := 38) hx hb dX9_receive_27 (by decide) (fun c27 => ?_) (fun c27 => ?_)
      · replace hF := bt_f (bI_0 c27) hF
        refine lv_aload_n hx hb dX9_receive_38 rfl (lv_at hl 1 rfl) ?_
        refine va_get (D := D) (ci := 8) (v := .int (bI v_sawHigh)) (C := RX9) (T := TX9) (N := 40) hx hb hts i_X9 hown hK hP 0 rfl rfl 29 (Nat.le_of_ble_eq_true rfl) f_103 (fun _ h9 => h9) rfl dX9_receive_39 ?_
        refine lv_if_eq (tgt := 73) hx hb dX9_receive_42 (by decide) (fun c28 => ?_) (fun c28 => ?_)
        · replace hF := bt_f (bI_0 c28) hF
          exact hret (v_receivedMany, v_overrun, v_lateCount, v_takes, v_sawHigh, v_takenForm, v_takenBeat, v_takenBits, v_takenParity, v_received_a, v_marks_a) _ _ 73 _ hP hD hS hF dX9_receive_73
        · replace hF := bt_t (bI_n0 c28) hF
          refine lv_aload_n hx hb dX9_receive_45 rfl (lv_at hl 1 rfl) ?_
          refine lv_iconst (v := 1) hx hb dX9_receive_46 (by decide) ?_
          refine pf (ci := 8) (v := .int (bI true)) (ty := .boolean) (C := RX9) (T := TX9) (N := 40) (ws' := [oX9 h_ v_divisor v_clocks v_wanted v_rowsOn v_level v_form v_outputs v_byteKept v_ins v_changed h_received h_marks v_receivedMany v_overrun h_sending v_sendingMany v_emptyUp v_lateUp v_lateCount h_waveHigh h_waveBeats v_waveMany v_lineIn v_sends v_sentCharacter v_sentForm v_sentBeat v_senderHigh true v_sawHigh v_takenForm v_takenBeat v_takenBits v_takenParity v_beats v_out h_runHigh h_runBeats v_runs v_thrown, aI h_received k_received v_received_n v_received_a, aI h_marks k_marks v_marks_n v_marks_a]) hx hb hts i_X9 tyX9_ok nmX9 hown hK hP hD hS 0 rfl rfl 28 (Nat.le_of_ble_eq_true rfl) f_100 rfl rfl (by decide +kernel) (nar_bI true) (fit_bI true) (Nat.le_of_ble_eq_true rfl) rfl dX9_receive_47 (fun H locs hP hD hS => ?_)
          refine lv_aload_n hx hb dX9_receive_50 rfl (lv_at hl 1 rfl) ?_
          refine lv_aload_n hx hb dX9_receive_51 rfl (lv_at hl 1 rfl) ?_
          refine va_get (D := D) (ci := 8) (v := .int v_form) (C := RX9) (T := TX9) (N := 40) hx hb hts i_X9 hown hK hP 0 rfl rfl 5 (Nat.le_of_ble_eq_true rfl) f_55 (fun _ h9 => h9) rfl dX9_receive_52 ?_
          refine pf (ci := 8) (v := .int v_form) (ty := .int) (C := RX9) (T := TX9) (N := 40) (ws' := [oX9 h_ v_divisor v_clocks v_wanted v_rowsOn v_level v_form v_outputs v_byteKept v_ins v_changed h_received h_marks v_receivedMany v_overrun h_sending v_sendingMany v_emptyUp v_lateUp v_lateCount h_waveHigh h_waveBeats v_waveMany v_lineIn v_sends v_sentCharacter v_sentForm v_sentBeat v_senderHigh true v_sawHigh v_form v_takenBeat v_takenBits v_takenParity v_beats v_out h_runHigh h_runBeats v_runs v_thrown, aI h_received k_received v_received_n v_received_a, aI h_marks k_marks v_marks_n v_marks_a]) hx hb hts i_X9 tyX9_ok nmX9 hown hK hP hD hS 0 rfl rfl 30 (Nat.le_of_ble_eq_true rfl) f_185 rfl rfl (by decide +kernel) rfl rfl (Nat.le_of_ble_eq_true rfl) rfl dX9_receive_55 (fun H locs hP hD hS => ?_)
          refine lv_aload_n hx hb dX9_receive_58 rfl (lv_at hl 1 rfl) ?_
          refine lv_iconst (v := 0) hx hb dX9_receive_59 (by decide) ?_
          refine pf (ci := 8) (v := .int 0) (ty := .int) (C := RX9) (T := TX9) (N := 40) (ws' := [oX9 h_ v_divisor v_clocks v_wanted v_rowsOn v_level v_form v_outputs v_byteKept v_ins v_changed h_received h_marks v_receivedMany v_overrun h_sending v_sendingMany v_emptyUp v_lateUp v_lateCount h_waveHigh h_waveBeats v_waveMany v_lineIn v_sends v_sentCharacter v_sentForm v_sentBeat v_senderHigh true v_sawHigh v_form 0 v_takenBits v_takenParity v_beats v_out h_runHigh h_runBeats v_runs v_thrown, aI h_received k_received v_received_n v_received_a, aI h_marks k_marks v_marks_n v_marks_a]) hx hb hts i_X9 tyX9_ok nmX9 hown hK hP hD hS 0 rfl rfl 31 (Nat.le_of_ble_eq_true rfl) f_188 rfl rfl (by decide +kernel) rfl rfl (Nat.le_of_ble_eq_true rfl) rfl dX9_receive_60 (fun H locs hP hD hS => ?_)
          refine lv_aload_n hx hb dX9_receive_63 rfl (lv_at hl 1 rfl) ?_
          refine lv_iconst (v := 0) hx hb dX9_receive_64 (by decide) ?_
          refine pf (ci := 8) (v := .int 0) (ty := .int) (C := RX9) (T := TX9) (N := 40) (ws' := [oX9 h_ v_divisor v_clocks v_wanted v_rowsOn v_level v_form v_outputs v_byteKept v_ins v_changed h_received h_marks v_receivedMany v_overrun h_sending v_sendingMany v_emptyUp v_lateUp v_lateCount h_waveHigh h_waveBeats v_waveMany v_lineIn v_sends v_sentCharacter v_sentForm v_sentBeat v_senderHigh true v_sawHigh v_form 0 0 v_takenParity v_beats v_out h_runHigh h_runBeats v_runs v_thrown, aI h_received k_received v_received_n v_received_a, aI h_marks k_marks v_marks_n v_marks_a]) hx hb hts i_X9 tyX9_ok nmX9 hown hK hP hD hS 0 rfl rfl 32 (Nat.le_of_ble_eq_true rfl) f_191 rfl rfl (by decide +kernel) rfl rfl (Nat.le_of_ble_eq_true rfl) rfl dX9_receive_65 (fun H locs hP hD hS => ?_)
          refine lv_aload_n hx hb dX9_receive_68 rfl (lv_at hl 1 rfl) ?_
          refine lv_iconst (v := 0) hx hb dX9_receive_69 (by decide) ?_
          refine pf (ci := 8) (v := .int 0) (ty := .int) (C := RX9) (T := TX9) (N := 40) (ws' := [oX9 h_ v_divisor v_clocks v_wanted v_rowsOn v_level v_form v_outputs v_byteKept v_ins v_changed h_received h_marks v_receivedMany v_overrun h_sending v_sendingMany v_emptyUp v_lateUp v_lateCount h_waveHigh h_waveBeats v_waveMany v_lineIn v_sends v_sentCharacter v_sentForm v_sentBeat v_senderHigh true v_sawHigh v_form 0 0 0 v_beats v_out h_runHigh h_runBeats v_runs v_thrown, aI h_received k_received v_received_n v_received_a, aI h_marks k_marks v_marks_n v_marks_a]) hx hb hts i_X9 tyX9_ok nmX9 hown hK hP hD hS 0 rfl rfl 33 (Nat.le_of_ble_eq_true rfl) f_194 rfl rfl (by decide +kernel) rfl rfl (Nat.le_of_ble_eq_true rfl) rfl dX9_receive_70 (fun H locs hP hD hS => ?_)
          exact hret (v_receivedMany, v_overrun, v_lateCount, true, v_sawHigh, v_form, 0, 0, 0, v_received_a, v_marks_a) _ _ 73 _ hP hD hS hF dX9_receive_73
      · replace hF := bt_t (bI_n0 c27) hF
        refine lv_aload_n hx hb dX9_receive_30 rfl (lv_at hl 1 rfl) ?_
        refine lv_iconst (v := 1) hx hb dX9_receive_31 (by decide) ?_
        refine pf (ci := 8) (v := .int (bI true)) (ty := .boolean) (C := RX9) (T := TX9) (N := 40) (ws' := [oX9 h_ v_divisor v_clocks v_wanted v_rowsOn v_level v_form v_outputs v_byteKept v_ins v_changed h_received h_marks v_receivedMany v_overrun h_sending v_sendingMany v_emptyUp v_lateUp v_lateCount h_waveHigh h_waveBeats v_waveMany v_lineIn v_sends v_sentCharacter v_sentForm v_sentBeat v_senderHigh v_takes true v_takenForm v_takenBeat v_takenBits v_takenParity v_beats v_out h_runHigh h_runBeats v_runs v_thrown, aI h_received k_received v_received_n v_received_a, aI h_marks k_marks v_marks_n v_marks_a]) hx hb hts i_X9 tyX9_ok nmX9 hown hK hP hD hS 0 rfl rfl 29 (Nat.le_of_ble_eq_true rfl) f_103 rfl rfl (by decide +kernel) (nar_bI true) (fit_bI true) (Nat.le_of_ble_eq_true rfl) rfl dX9_receive_32 (fun H locs hP hD hS => ?_)
        refine lv_goto (tgt := 73) hx hb dX9_receive_35 (by decide) ?_
        exact hret (v_receivedMany, v_overrun, v_lateCount, v_takes, true, v_takenForm, v_takenBeat, v_takenBits, v_takenParity, v_received_a, v_marks_a) _ _ 73 _ hP hD hS hF dX9_receive_73
  unfold F_X9_receive at hF
  refine lv_aload_n hx hb dX9_receive_0 rfl (lv_at hl 0 rfl) ?_
  obtain ⟨u29, hu29, hF⟩ := bd_el hF
  refine cVI (q0 := 0) (ci := 8) (As := []) (rest := []) (wr := [aI h_received k_received v_received_n v_received_a, aI h_marks k_marks v_marks_n v_marks_a]) (ws' := [oX9 h_ v_divisor v_clocks v_wanted v_rowsOn v_level v_form v_outputs v_byteKept v_ins v_changed h_received h_marks v_receivedMany v_overrun h_sending v_sendingMany v_emptyUp v_lateUp v_lateCount h_waveHigh h_waveBeats v_waveMany v_lineIn v_sends v_sentCharacter v_sentForm v_sentBeat v_senderHigh v_takes v_sawHigh v_takenForm v_takenBeat v_takenBits v_takenParity v_beats v_out h_runHigh h_runBeats v_runs v_thrown, aI h_received k_received v_received_n v_received_a, aI h_marks k_marks v_marks_n v_marks_a]) (rv := bI u29) ⟨hx, hb, hml, hown, hts⟩ (mX9_loops D h_ h_received h_marks h_sending h_waveHigh h_waveBeats h_runHigh h_runBeats v_divisor v_clocks v_wanted v_rowsOn v_level v_form v_outputs v_byteKept v_ins v_changed v_receivedMany v_overrun v_sendingMany v_emptyUp v_lateUp v_lateCount v_waveMany v_lineIn v_sends v_sentCharacter v_sentForm v_sentBeat v_senderHigh v_takes v_sawHigh v_takenForm v_takenBeat v_takenBits v_takenParity v_beats v_out v_runs v_thrown u29 hu29) (cwV 0 hts gX9_receive_X9_loops rfl rfl rfl (by decide +kernel) ⟨Nat.le_of_ble_eq_true rfl, Nat.le_of_ble_eq_true rfl⟩) hK hP hD hS hA [] [0] [1, 2] [2, 0, 1] rfl rfl rfl rfl rfl rfl rfl rfl rfl hl.1 rfl (Nat.le_of_ble_eq_true rfl) rfl dX9_receive_1 ⟨Nat.le_refl _, Nat.le_refl _⟩ (fun H locs hP hD hS => ?_)
  refine lv_if_eq (tgt := 14) hx hb dX9_receive_4 (by decide) (fun c30 => ?_) (fun c30 => ?_)
  · replace hF := bt_f (bI_0 c30) hF
    refine lv_aload_n hx hb dX9_receive_14 rfl (lv_at hl 0 rfl) ?_
    refine va_get (D := D) (ci := 8) (v := .int (bI v_lineIn)) (C := RX9) (T := TX9) (N := 40) hx hb hts i_X9 hown hK hP 0 rfl rfl 22 (Nat.le_of_ble_eq_true rfl) f_91 (fun _ h9 => h9) rfl dX9_receive_15 ?_
    exact J18 v_lineIn v_receivedMany v_overrun v_lateCount v_takes v_sawHigh v_takenForm v_takenBeat v_takenBits v_takenParity v_received_a v_marks_a _ _ _ hF hl hP hD hS
  · replace hF := bt_t (bI_n0 c30) hF
    refine lv_aload_n hx hb dX9_receive_7 rfl (lv_at hl 0 rfl) ?_
    refine va_get (D := D) (ci := 8) (v := .int (bI v_senderHigh)) (C := RX9) (T := TX9) (N := 40) hx hb hts i_X9 hown hK hP 0 rfl rfl 27 (Nat.le_of_ble_eq_true rfl) f_97 (fun _ h9 => h9) rfl dX9_receive_8 ?_
    refine lv_goto (tgt := 18) hx hb dX9_receive_11 (by decide) ?_
    exact J18 v_senderHigh v_receivedMany v_overrun v_lateCount v_takes v_sawHigh v_takenForm v_takenBeat v_takenBits v_takenParity v_received_a v_marks_a _ _ _ hF hl hP hD hS
