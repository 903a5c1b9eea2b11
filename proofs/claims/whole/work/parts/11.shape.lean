theorem dJ6_bitCount_0f7a4_0 : decode cJ6_bitCount_0f7a4 0 = .ok (.iload_n 0, 1) := by decide +kernel
theorem dJ6_bitCount_0f7a4_1 : decode cJ6_bitCount_0f7a4 1 = .ok (.iload_n 0, 1) := by decide +kernel
theorem dJ6_bitCount_0f7a4_2 : decode cJ6_bitCount_0f7a4 2 = .ok (.iconst 1, 1) := by decide +kernel
theorem dJ6_bitCount_0f7a4_3 : decode cJ6_bitCount_0f7a4 3 = .ok (.iushr, 1) := by decide +kernel
theorem dJ6_bitCount_0f7a4_4 : decode cJ6_bitCount_0f7a4 4 = .ok (.ldc_w 265, 3) := by decide +kernel
theorem dJ6_bitCount_0f7a4_7 : decode cJ6_bitCount_0f7a4 7 = .ok (.iand, 1) := by decide +kernel
theorem dJ6_bitCount_0f7a4_8 : decode cJ6_bitCount_0f7a4 8 = .ok (.isub, 1) := by decide +kernel
theorem dJ6_bitCount_0f7a4_9 : decode cJ6_bitCount_0f7a4 9 = .ok (.istore_n 0, 1) := by decide +kernel
theorem dJ6_bitCount_0f7a4_10 : decode cJ6_bitCount_0f7a4 10 = .ok (.iload_n 0, 1) := by decide +kernel
theorem dJ6_bitCount_0f7a4_11 : decode cJ6_bitCount_0f7a4 11 = .ok (.ldc_w 266, 3) := by decide +kernel
theorem dJ6_bitCount_0f7a4_14 : decode cJ6_bitCount_0f7a4 14 = .ok (.iand, 1) := by decide +kernel
theorem dJ6_bitCount_0f7a4_15 : decode cJ6_bitCount_0f7a4 15 = .ok (.iload_n 0, 1) := by decide +kernel
theorem dJ6_bitCount_0f7a4_16 : decode cJ6_bitCount_0f7a4 16 = .ok (.iconst 2, 1) := by decide +kernel
theorem dJ6_bitCount_0f7a4_17 : decode cJ6_bitCount_0f7a4 17 = .ok (.iushr, 1) := by decide +kernel
theorem dJ6_bitCount_0f7a4_18 : decode cJ6_bitCount_0f7a4 18 = .ok (.ldc_w 266, 3) := by decide +kernel
theorem dJ6_bitCount_0f7a4_21 : decode cJ6_bitCount_0f7a4 21 = .ok (.iand, 1) := by decide +kernel
theorem dJ6_bitCount_0f7a4_22 : decode cJ6_bitCount_0f7a4 22 = .ok (.iadd, 1) := by decide +kernel
theorem dJ6_bitCount_0f7a4_23 : decode cJ6_bitCount_0f7a4 23 = .ok (.istore_n 0, 1) := by decide +kernel
theorem dJ6_bitCount_0f7a4_24 : decode cJ6_bitCount_0f7a4 24 = .ok (.iload_n 0, 1) := by decide +kernel
theorem dJ6_bitCount_0f7a4_25 : decode cJ6_bitCount_0f7a4 25 = .ok (.iload_n 0, 1) := by decide +kernel
theorem dJ6_bitCount_0f7a4_26 : decode cJ6_bitCount_0f7a4 26 = .ok (.iconst 4, 1) := by decide +kernel
theorem dJ6_bitCount_0f7a4_27 : decode cJ6_bitCount_0f7a4 27 = .ok (.iushr, 1) := by decide +kernel
theorem dJ6_bitCount_0f7a4_28 : decode cJ6_bitCount_0f7a4 28 = .ok (.iadd, 1) := by decide +kernel
theorem dJ6_bitCount_0f7a4_29 : decode cJ6_bitCount_0f7a4 29 = .ok (.ldc_w 267, 3) := by decide +kernel
theorem dJ6_bitCount_0f7a4_32 : decode cJ6_bitCount_0f7a4 32 = .ok (.iand, 1) := by decide +kernel
theorem dJ6_bitCount_0f7a4_33 : decode cJ6_bitCount_0f7a4 33 = .ok (.istore_n 0, 1) := by decide +kernel
theorem dJ6_bitCount_0f7a4_34 : decode cJ6_bitCount_0f7a4 34 = .ok (.iload_n 0, 1) := by decide +kernel
theorem dJ6_bitCount_0f7a4_35 : decode cJ6_bitCount_0f7a4 35 = .ok (.iload_n 0, 1) := by decide +kernel
theorem dJ6_bitCount_0f7a4_36 : decode cJ6_bitCount_0f7a4 36 = .ok (.bipush 8, 2) := by decide +kernel
theorem dJ6_bitCount_0f7a4_38 : decode cJ6_bitCount_0f7a4 38 = .ok (.iushr, 1) := by decide +kernel
theorem dJ6_bitCount_0f7a4_39 : decode cJ6_bitCount_0f7a4 39 = .ok (.iadd, 1) := by decide +kernel
theorem dJ6_bitCount_0f7a4_40 : decode cJ6_bitCount_0f7a4 40 = .ok (.istore_n 0, 1) := by decide +kernel
theorem dJ6_bitCount_0f7a4_41 : decode cJ6_bitCount_0f7a4 41 = .ok (.iload_n 0, 1) := by decide +kernel
theorem dJ6_bitCount_0f7a4_42 : decode cJ6_bitCount_0f7a4 42 = .ok (.iload_n 0, 1) := by decide +kernel
theorem dJ6_bitCount_0f7a4_43 : decode cJ6_bitCount_0f7a4 43 = .ok (.bipush 16, 2) := by decide +kernel
theorem dJ6_bitCount_0f7a4_45 : decode cJ6_bitCount_0f7a4 45 = .ok (.iushr, 1) := by decide +kernel
theorem dJ6_bitCount_0f7a4_46 : decode cJ6_bitCount_0f7a4 46 = .ok (.iadd, 1) := by decide +kernel
theorem dJ6_bitCount_0f7a4_47 : decode cJ6_bitCount_0f7a4 47 = .ok (.istore_n 0, 1) := by decide +kernel
theorem dJ6_bitCount_0f7a4_48 : decode cJ6_bitCount_0f7a4 48 = .ok (.iload_n 0, 1) := by decide +kernel
theorem dJ6_bitCount_0f7a4_49 : decode cJ6_bitCount_0f7a4 49 = .ok (.bipush 63, 2) := by decide +kernel
theorem dJ6_bitCount_0f7a4_51 : decode cJ6_bitCount_0f7a4 51 = .ok (.iand, 1) := by decide +kernel
theorem dJ6_bitCount_0f7a4_52 : decode cJ6_bitCount_0f7a4 52 = .ok (.ireturn, 1) := by decide +kernel
theorem dX7_dataBits_0 : decode cX7_dataBits 0 = .ok (.iconst 5, 1) := by decide +kernel
theorem dX7_dataBits_1 : decode cX7_dataBits 1 = .ok (.iload_n 0, 1) := by decide +kernel
theorem dX7_dataBits_2 : decode cX7_dataBits 2 = .ok (.iconst 3, 1) := by decide +kernel
theorem dX7_dataBits_3 : decode cX7_dataBits 3 = .ok (.iand, 1) := by decide +kernel
theorem dX7_dataBits_4 : decode cX7_dataBits 4 = .ok (.iadd, 1) := by decide +kernel
theorem dX7_dataBits_5 : decode cX7_dataBits 5 = .ok (.ireturn, 1) := by decide +kernel
theorem dX7_hasParity_0 : decode cX7_hasParity 0 = .ok (.iload_n 0, 1) := by decide +kernel
theorem dX7_hasParity_1 : decode cX7_hasParity 1 = .ok (.bipush 8, 2) := by decide +kernel
theorem dX7_hasParity_3 : decode cX7_hasParity 3 = .ok (.iand, 1) := by decide +kernel
theorem dX7_hasParity_4 : decode cX7_hasParity 4 = .ok (.ifCond .eq 7, 3) := by decide +kernel
theorem dX7_hasParity_7 : decode cX7_hasParity 7 = .ok (.iconst 1, 1) := by decide +kernel
theorem dX7_hasParity_8 : decode cX7_hasParity 8 = .ok (.goto 4, 3) := by decide +kernel
theorem dX7_hasParity_11 : decode cX7_hasParity 11 = .ok (.iconst 0, 1) := by decide +kernel
theorem dX7_hasParity_12 : decode cX7_hasParity 12 = .ok (.ireturn, 1) := by decide +kernel
theorem dX7_pieces_0 : decode cX7_pieces 0 = .ok (.iload_n 0, 1) := by decide +kernel
theorem dX7_pieces_1 : decode cX7_pieces 1 = .ok (.invokestatic 11, 3) := by decide +kernel
theorem dX7_pieces_4 : decode cX7_pieces 4 = .ok (.iload_n 0, 1) := by decide +kernel
theorem dX7_pieces_5 : decode cX7_pieces 5 = .ok (.invokestatic 15, 3) := by decide +kernel
theorem dX7_pieces_8 : decode cX7_pieces 8 = .ok (.ifCond .eq 7, 3) := by decide +kernel
theorem dX7_pieces_11 : decode cX7_pieces 11 = .ok (.iconst 3, 1) := by decide +kernel
theorem dX7_pieces_12 : decode cX7_pieces 12 = .ok (.goto 4, 3) := by decide +kernel
theorem dX7_pieces_15 : decode cX7_pieces 15 = .ok (.iconst 2, 1) := by decide +kernel
theorem dX7_pieces_16 : decode cX7_pieces 16 = .ok (.iadd, 1) := by decide +kernel
theorem dX7_pieces_17 : decode cX7_pieces 17 = .ok (.ireturn, 1) := by decide +kernel
set_option maxRecDepth 20000 in
theorem ggX7_pieces_X7_dataBits : GoodIn wsX7_pieces wsX7_dataBits := goodIn_r _ [4] (by decide +kernel) (by decide +kernel)
set_option maxRecDepth 20000 in
theorem gX7_pieces_X7_dataBits : GoodIn wsX7_pieces (va_wsS RX7 11 yX7_dataBits wsX7_dataBits) := goodIn_app (goodIn_of _ (by decide +kernel)) ggX7_pieces_X7_dataBits
set_option maxRecDepth 20000 in
theorem ggX7_pieces_X7_hasParity : GoodIn wsX7_pieces wsX7_hasParity := goodIn_r _ [7] (by decide +kernel) (by decide +kernel)
set_option maxRecDepth 20000 in
theorem gX7_pieces_X7_hasParity : GoodIn wsX7_pieces (va_wsS RX7 15 yX7_hasParity wsX7_hasParity) := goodIn_app (goodIn_of _ (by decide +kernel)) ggX7_pieces_X7_hasParity
theorem dX7_stopBeats_0 : decode cX7_stopBeats 0 = .ok (.iload_n 0, 1) := by decide +kernel
theorem dX7_stopBeats_1 : decode cX7_stopBeats 1 = .ok (.iconst 4, 1) := by decide +kernel
theorem dX7_stopBeats_2 : decode cX7_stopBeats 2 = .ok (.iand, 1) := by decide +kernel
theorem dX7_stopBeats_3 : decode cX7_stopBeats 3 = .ok (.ifCond .ne 6, 3) := by decide +kernel
theorem dX7_stopBeats_6 : decode cX7_stopBeats 6 = .ok (.bipush 16, 2) := by decide +kernel
theorem dX7_stopBeats_8 : decode cX7_stopBeats 8 = .ok (.ireturn, 1) := by decide +kernel
theorem dX7_stopBeats_9 : decode cX7_stopBeats 9 = .ok (.iload_n 0, 1) := by decide +kernel
theorem dX7_stopBeats_10 : decode cX7_stopBeats 10 = .ok (.invokestatic 11, 3) := by decide +kernel
theorem dX7_stopBeats_13 : decode cX7_stopBeats 13 = .ok (.iconst 5, 1) := by decide +kernel
theorem dX7_stopBeats_14 : decode cX7_stopBeats 14 = .ok (.if_icmp .ne 8, 3) := by decide +kernel
theorem dX7_stopBeats_17 : decode cX7_stopBeats 17 = .ok (.bipush 24, 2) := by decide +kernel
theorem dX7_stopBeats_19 : decode cX7_stopBeats 19 = .ok (.goto 5, 3) := by decide +kernel
theorem dX7_stopBeats_22 : decode cX7_stopBeats 22 = .ok (.bipush 32, 2) := by decide +kernel
theorem dX7_stopBeats_24 : decode cX7_stopBeats 24 = .ok (.ireturn, 1) := by decide +kernel
set_option maxRecDepth 20000 in
theorem ggX7_stopBeats_X7_dataBits : GoodIn wsX7_stopBeats wsX7_dataBits := goodIn_r _ [4] (by decide +kernel) (by decide +kernel)
set_option maxRecDepth 20000 in
theorem gX7_stopBeats_X7_dataBits : GoodIn wsX7_stopBeats (va_wsS RX7 11 yX7_dataBits wsX7_dataBits) := goodIn_app (goodIn_of _ (by decide +kernel)) ggX7_stopBeats_X7_dataBits
theorem dX7_pieceBeats_0 : decode cX7_pieceBeats 0 = .ok (.iload_n 1, 1) := by decide +kernel
theorem dX7_pieceBeats_1 : decode cX7_pieceBeats 1 = .ok (.iload_n 0, 1) := by decide +kernel
theorem dX7_pieceBeats_2 : decode cX7_pieceBeats 2 = .ok (.invokestatic 19, 3) := by decide +kernel
theorem dX7_pieceBeats_5 : decode cX7_pieceBeats 5 = .ok (.iconst 1, 1) := by decide +kernel
theorem dX7_pieceBeats_6 : decode cX7_pieceBeats 6 = .ok (.isub, 1) := by decide +kernel
theorem dX7_pieceBeats_7 : decode cX7_pieceBeats 7 = .ok (.if_icmp .ne 10, 3) := by decide +kernel
theorem dX7_pieceBeats_10 : decode cX7_pieceBeats 10 = .ok (.iload_n 0, 1) := by decide +kernel
theorem dX7_pieceBeats_11 : decode cX7_pieceBeats 11 = .ok (.invokestatic 22, 3) := by decide +kernel
theorem dX7_pieceBeats_14 : decode cX7_pieceBeats 14 = .ok (.goto 5, 3) := by decide +kernel
theorem dX7_pieceBeats_17 : decode cX7_pieceBeats 17 = .ok (.bipush 16, 2) := by decide +kernel
theorem dX7_pieceBeats_19 : decode cX7_pieceBeats 19 = .ok (.ireturn, 1) := by decide +kernel
set_option maxRecDepth 20000 in
theorem ggX7_pieceBeats_X7_pieces : GoodIn wsX7_pieceBeats wsX7_pieces := goodIn_r _ [4, 5, 6, 3, 7, 8, 9, 10] (by decide +kernel) (by decide +kernel)
set_option maxRecDepth 20000 in
theorem gX7_pieceBeats_X7_pieces : GoodIn wsX7_pieceBeats (va_wsS RX7 19 yX7_pieces wsX7_pieces) := goodIn_app (goodIn_of _ (by decide +kernel)) ggX7_pieceBeats_X7_pieces
set_option maxRecDepth 20000 in
theorem ggX7_pieceBeats_X7_stopBeats : GoodIn wsX7_pieceBeats wsX7_stopBeats := goodIn_r _ [13, 5, 6, 3, 7] (by decide +kernel) (by decide +kernel)
set_option maxRecDepth 20000 in
theorem gX7_pieceBeats_X7_stopBeats : GoodIn wsX7_pieceBeats (va_wsS RX7 22 yX7_stopBeats wsX7_stopBeats) := goodIn_app (goodIn_of _ (by decide +kernel)) ggX7_pieceBeats_X7_stopBeats
theorem dX7_beats_0 : decode cX7_beats 0 = .ok (.iload_n 0, 1) := by decide +kernel
theorem dX7_beats_1 : decode cX7_beats 1 = .ok (.invokestatic 19, 3) := by decide +kernel
theorem dX7_beats_4 : decode cX7_beats 4 = .ok (.iconst 1, 1) := by decide +kernel
theorem dX7_beats_5 : decode cX7_beats 5 = .ok (.isub, 1) := by decide +kernel
theorem dX7_beats_6 : decode cX7_beats 6 = .ok (.bipush 16, 2) := by decide +kernel
theorem dX7_beats_8 : decode cX7_beats 8 = .ok (.imul, 1) := by decide +kernel
theorem dX7_beats_9 : decode cX7_beats 9 = .ok (.iload_n 0, 1) := by decide +kernel
theorem dX7_beats_10 : decode cX7_beats 10 = .ok (.invokestatic 22, 3) := by decide +kernel
theorem dX7_beats_13 : decode cX7_beats 13 = .ok (.iadd, 1) := by decide +kernel
theorem dX7_beats_14 : decode cX7_beats 14 = .ok (.ireturn, 1) := by decide +kernel
set_option maxRecDepth 20000 in
theorem ggX7_beats_X7_pieces : GoodIn wsX7_beats wsX7_pieces := goodIn_r _ [4, 5, 6, 3, 7, 8, 9, 10] (by decide +kernel) (by decide +kernel)
set_option maxRecDepth 20000 in
theorem gX7_beats_X7_pieces : GoodIn wsX7_beats (va_wsS RX7 19 yX7_pieces wsX7_pieces) := goodIn_app (goodIn_of _ (by decide +kernel)) ggX7_beats_X7_pieces
set_option maxRecDepth 20000 in
theorem ggX7_beats_X7_stopBeats : GoodIn wsX7_beats wsX7_stopBeats := goodIn_r _ [13, 5, 6, 3, 7] (by decide +kernel) (by decide +kernel)
set_option maxRecDepth 20000 in
theorem gX7_beats_X7_stopBeats : GoodIn wsX7_beats (va_wsS RX7 22 yX7_stopBeats wsX7_stopBeats) := goodIn_app (goodIn_of _ (by decide +kernel)) ggX7_beats_X7_stopBeats
theorem dX7_parityIsHigh_0 : decode cX7_parityIsHigh 0 = .ok (.iload_n 0, 1) := by decide +kernel
theorem dX7_parityIsHigh_1 : decode cX7_parityIsHigh 1 = .ok (.bipush 16, 2) := by decide +kernel
theorem dX7_parityIsHigh_3 : decode cX7_parityIsHigh 3 = .ok (.iand, 1) := by decide +kernel
theorem dX7_parityIsHigh_4 : decode cX7_parityIsHigh 4 = .ok (.ifCond .eq 7, 3) := by decide +kernel
theorem dX7_parityIsHigh_7 : decode cX7_parityIsHigh 7 = .ok (.iconst 1, 1) := by decide +kernel
theorem dX7_parityIsHigh_8 : decode cX7_parityIsHigh 8 = .ok (.goto 4, 3) := by decide +kernel
theorem dX7_parityIsHigh_11 : decode cX7_parityIsHigh 11 = .ok (.iconst 0, 1) := by decide +kernel
theorem dX7_parityIsHigh_12 : decode cX7_parityIsHigh 12 = .ok (.istore_n 2, 1) := by decide +kernel
theorem dX7_parityIsHigh_13 : decode cX7_parityIsHigh 13 = .ok (.iload_n 0, 1) := by decide +kernel
theorem dX7_parityIsHigh_14 : decode cX7_parityIsHigh 14 = .ok (.bipush 32, 2) := by decide +kernel
theorem dX7_parityIsHigh_16 : decode cX7_parityIsHigh 16 = .ok (.iand, 1) := by decide +kernel
theorem dX7_parityIsHigh_17 : decode cX7_parityIsHigh 17 = .ok (.ifCond .eq 13, 3) := by decide +kernel
theorem dX7_parityIsHigh_20 : decode cX7_parityIsHigh 20 = .ok (.iload_n 2, 1) := by decide +kernel
theorem dX7_parityIsHigh_21 : decode cX7_parityIsHigh 21 = .ok (.ifCond .ne 7, 3) := by decide +kernel
theorem dX7_parityIsHigh_24 : decode cX7_parityIsHigh 24 = .ok (.iconst 1, 1) := by decide +kernel
theorem dX7_parityIsHigh_25 : decode cX7_parityIsHigh 25 = .ok (.goto 4, 3) := by decide +kernel
theorem dX7_parityIsHigh_28 : decode cX7_parityIsHigh 28 = .ok (.iconst 0, 1) := by decide +kernel
theorem dX7_parityIsHigh_29 : decode cX7_parityIsHigh 29 = .ok (.ireturn, 1) := by decide +kernel
theorem dX7_parityIsHigh_30 : decode cX7_parityIsHigh 30 = .ok (.iload_n 1, 1) := by decide +kernel
theorem dX7_parityIsHigh_31 : decode cX7_parityIsHigh 31 = .ok (.iconst 1, 1) := by decide +kernel
theorem dX7_parityIsHigh_32 : decode cX7_parityIsHigh 32 = .ok (.iload_n 0, 1) := by decide +kernel
theorem dX7_parityIsHigh_33 : decode cX7_parityIsHigh 33 = .ok (.invokestatic 11, 3) := by decide +kernel
theorem dX7_parityIsHigh_36 : decode cX7_parityIsHigh 36 = .ok (.ishl, 1) := by decide +kernel
theorem dX7_parityIsHigh_37 : decode cX7_parityIsHigh 37 = .ok (.iconst 1, 1) := by decide +kernel
theorem dX7_parityIsHigh_38 : decode cX7_parityIsHigh 38 = .ok (.isub, 1) := by decide +kernel
theorem dX7_parityIsHigh_39 : decode cX7_parityIsHigh 39 = .ok (.iand, 1) := by decide +kernel
theorem dX7_parityIsHigh_40 : decode cX7_parityIsHigh 40 = .ok (.istore_n 3, 1) := by decide +kernel
theorem dX7_parityIsHigh_41 : decode cX7_parityIsHigh 41 = .ok (.iload_n 3, 1) := by decide +kernel
theorem dX7_parityIsHigh_42 : decode cX7_parityIsHigh 42 = .ok (.invokestatic 25, 3) := by decide +kernel
theorem dX7_parityIsHigh_45 : decode cX7_parityIsHigh 45 = .ok (.iconst 1, 1) := by decide +kernel
theorem dX7_parityIsHigh_46 : decode cX7_parityIsHigh 46 = .ok (.iand, 1) := by decide +kernel
theorem dX7_parityIsHigh_47 : decode cX7_parityIsHigh 47 = .ok (.ifCond .eq 7, 3) := by decide +kernel
theorem dX7_parityIsHigh_50 : decode cX7_parityIsHigh 50 = .ok (.iconst 1, 1) := by decide +kernel
theorem dX7_parityIsHigh_51 : decode cX7_parityIsHigh 51 = .ok (.goto 4, 3) := by decide +kernel
theorem dX7_parityIsHigh_54 : decode cX7_parityIsHigh 54 = .ok (.iconst 0, 1) := by decide +kernel
theorem dX7_parityIsHigh_55 : decode cX7_parityIsHigh 55 = .ok (.istore 4, 2) := by decide +kernel
theorem dX7_parityIsHigh_57 : decode cX7_parityIsHigh 57 = .ok (.iload_n 2, 1) := by decide +kernel
theorem dX7_parityIsHigh_58 : decode cX7_parityIsHigh 58 = .ok (.iload 4, 2) := by decide +kernel
theorem dX7_parityIsHigh_60 : decode cX7_parityIsHigh 60 = .ok (.if_icmp .ne 7, 3) := by decide +kernel
theorem dX7_parityIsHigh_63 : decode cX7_parityIsHigh 63 = .ok (.iconst 1, 1) := by decide +kernel
theorem dX7_parityIsHigh_64 : decode cX7_parityIsHigh 64 = .ok (.goto 4, 3) := by decide +kernel
theorem dX7_parityIsHigh_67 : decode cX7_parityIsHigh 67 = .ok (.iconst 0, 1) := by decide +kernel
theorem dX7_parityIsHigh_68 : decode cX7_parityIsHigh 68 = .ok (.ireturn, 1) := by decide +kernel
set_option maxRecDepth 20000 in
theorem ggX7_parityIsHigh_X7_dataBits : GoodIn wsX7_parityIsHigh wsX7_dataBits := goodIn_r _ [4] (by decide +kernel) (by decide +kernel)
set_option maxRecDepth 20000 in
theorem gX7_parityIsHigh_X7_dataBits : GoodIn wsX7_parityIsHigh (va_wsS RX7 11 yX7_dataBits wsX7_dataBits) := goodIn_app (goodIn_of _ (by decide +kernel)) ggX7_parityIsHigh_X7_dataBits
set_option maxRecDepth 20000 in
theorem ggX7_parityIsHigh_J6_bitCount_0f7a4 : GoodIn wsX7_parityIsHigh wsJ6_bitCount_0f7a4 := goodIn_r _ [8, 9, 10, 11] (by decide +kernel) (by decide +kernel)
set_option maxRecDepth 20000 in
theorem gX7_parityIsHigh_J6_bitCount_0f7a4 : GoodIn wsX7_parityIsHigh (va_wsS RX7 25 yJ6_bitCount_0f7a4 wsJ6_bitCount_0f7a4) := goodIn_app (goodIn_of _ (by decide +kernel)) ggX7_parityIsHigh_J6_bitCount_0f7a4
theorem dX7_pieceIsHigh_0 : decode cX7_pieceIsHigh 0 = .ok (.iload_n 0, 1) := by decide +kernel
theorem dX7_pieceIsHigh_1 : decode cX7_pieceIsHigh 1 = .ok (.invokestatic 11, 3) := by decide +kernel
theorem dX7_pieceIsHigh_4 : decode cX7_pieceIsHigh 4 = .ok (.istore_n 3, 1) := by decide +kernel
theorem dX7_pieceIsHigh_5 : decode cX7_pieceIsHigh 5 = .ok (.iload_n 2, 1) := by decide +kernel
theorem dX7_pieceIsHigh_6 : decode cX7_pieceIsHigh 6 = .ok (.ifCond .gt 5, 3) := by decide +kernel
theorem dX7_pieceIsHigh_9 : decode cX7_pieceIsHigh 9 = .ok (.iconst 0, 1) := by decide +kernel
theorem dX7_pieceIsHigh_10 : decode cX7_pieceIsHigh 10 = .ok (.ireturn, 1) := by decide +kernel
theorem dX7_pieceIsHigh_11 : decode cX7_pieceIsHigh 11 = .ok (.iload_n 2, 1) := by decide +kernel
theorem dX7_pieceIsHigh_12 : decode cX7_pieceIsHigh 12 = .ok (.iload_n 3, 1) := by decide +kernel
theorem dX7_pieceIsHigh_13 : decode cX7_pieceIsHigh 13 = .ok (.if_icmp .gt 19, 3) := by decide +kernel
theorem dX7_pieceIsHigh_16 : decode cX7_pieceIsHigh 16 = .ok (.iload_n 1, 1) := by decide +kernel
theorem dX7_pieceIsHigh_17 : decode cX7_pieceIsHigh 17 = .ok (.iload_n 2, 1) := by decide +kernel
theorem dX7_pieceIsHigh_18 : decode cX7_pieceIsHigh 18 = .ok (.iconst 1, 1) := by decide +kernel
theorem dX7_pieceIsHigh_19 : decode cX7_pieceIsHigh 19 = .ok (.isub, 1) := by decide +kernel
theorem dX7_pieceIsHigh_20 : decode cX7_pieceIsHigh 20 = .ok (.ishr, 1) := by decide +kernel
theorem dX7_pieceIsHigh_21 : decode cX7_pieceIsHigh 21 = .ok (.iconst 1, 1) := by decide +kernel
theorem dX7_pieceIsHigh_22 : decode cX7_pieceIsHigh 22 = .ok (.iand, 1) := by decide +kernel
theorem dX7_pieceIsHigh_23 : decode cX7_pieceIsHigh 23 = .ok (.ifCond .eq 7, 3) := by decide +kernel
theorem dX7_pieceIsHigh_26 : decode cX7_pieceIsHigh 26 = .ok (.iconst 1, 1) := by decide +kernel
theorem dX7_pieceIsHigh_27 : decode cX7_pieceIsHigh 27 = .ok (.goto 4, 3) := by decide +kernel
theorem dX7_pieceIsHigh_30 : decode cX7_pieceIsHigh 30 = .ok (.iconst 0, 1) := by decide +kernel
theorem dX7_pieceIsHigh_31 : decode cX7_pieceIsHigh 31 = .ok (.ireturn, 1) := by decide +kernel
theorem dX7_pieceIsHigh_32 : decode cX7_pieceIsHigh 32 = .ok (.iload_n 2, 1) := by decide +kernel
theorem dX7_pieceIsHigh_33 : decode cX7_pieceIsHigh 33 = .ok (.iload_n 3, 1) := by decide +kernel
theorem dX7_pieceIsHigh_34 : decode cX7_pieceIsHigh 34 = .ok (.iconst 1, 1) := by decide +kernel
theorem dX7_pieceIsHigh_35 : decode cX7_pieceIsHigh 35 = .ok (.iadd, 1) := by decide +kernel
theorem dX7_pieceIsHigh_36 : decode cX7_pieceIsHigh 36 = .ok (.if_icmp .ne 16, 3) := by decide +kernel
theorem dX7_pieceIsHigh_39 : decode cX7_pieceIsHigh 39 = .ok (.iload_n 0, 1) := by decide +kernel
theorem dX7_pieceIsHigh_40 : decode cX7_pieceIsHigh 40 = .ok (.invokestatic 15, 3) := by decide +kernel
theorem dX7_pieceIsHigh_43 : decode cX7_pieceIsHigh 43 = .ok (.ifCond .eq 9, 3) := by decide +kernel
theorem dX7_pieceIsHigh_46 : decode cX7_pieceIsHigh 46 = .ok (.iload_n 0, 1) := by decide +kernel
theorem dX7_pieceIsHigh_47 : decode cX7_pieceIsHigh 47 = .ok (.iload_n 1, 1) := by decide +kernel
theorem dX7_pieceIsHigh_48 : decode cX7_pieceIsHigh 48 = .ok (.invokestatic 30, 3) := by decide +kernel
theorem dX7_pieceIsHigh_51 : decode cX7_pieceIsHigh 51 = .ok (.ireturn, 1) := by decide +kernel
theorem dX7_pieceIsHigh_52 : decode cX7_pieceIsHigh 52 = .ok (.iconst 1, 1) := by decide +kernel
theorem dX7_pieceIsHigh_53 : decode cX7_pieceIsHigh 53 = .ok (.ireturn, 1) := by decide +kernel
set_option maxRecDepth 20000 in
theorem ggX7_pieceIsHigh_X7_dataBits : GoodIn wsX7_pieceIsHigh wsX7_dataBits := goodIn_r _ [4] (by decide +kernel) (by decide +kernel)
set_option maxRecDepth 20000 in
theorem gX7_pieceIsHigh_X7_dataBits : GoodIn wsX7_pieceIsHigh (va_wsS RX7 11 yX7_dataBits wsX7_dataBits) := goodIn_app (goodIn_of _ (by decide +kernel)) ggX7_pieceIsHigh_X7_dataBits
set_option maxRecDepth 20000 in
theorem ggX7_pieceIsHigh_X7_hasParity : GoodIn wsX7_pieceIsHigh wsX7_hasParity := goodIn_r _ [7] (by decide +kernel) (by decide +kernel)
set_option maxRecDepth 20000 in
theorem gX7_pieceIsHigh_X7_hasParity : GoodIn wsX7_pieceIsHigh (va_wsS RX7 15 yX7_hasParity wsX7_hasParity) := goodIn_app (goodIn_of _ (by decide +kernel)) ggX7_pieceIsHigh_X7_hasParity
set_option maxRecDepth 20000 in
theorem ggX7_pieceIsHigh_X7_parityIsHigh : GoodIn wsX7_pieceIsHigh wsX7_parityIsHigh := goodIn_r _ [10, 1, 2, 3, 4, 11, 12, 13, 14, 15, 16, 17] (by decide +kernel) (by decide +kernel)
set_option maxRecDepth 20000 in
theorem gX7_pieceIsHigh_X7_parityIsHigh : GoodIn wsX7_pieceIsHigh (va_wsS RX7 30 yX7_parityIsHigh wsX7_parityIsHigh) := goodIn_app (goodIn_of _ (by decide +kernel)) ggX7_pieceIsHigh_X7_parityIsHigh
def F_J6_bitCount_0f7a4 (p1 : Int32)  : Option (Int32) := lt1 (p1 - (((p1.toUInt32 >>> ((1 : Int32).toUInt32 &&& Int32.toUInt32 31)).toInt32) &&& (1431655765 : Int32))) (fun x1 => lt1 ((x1 &&& (858993459 : Int32)) + (((x1.toUInt32 >>> ((2 : Int32).toUInt32 &&& Int32.toUInt32 31)).toInt32) &&& (858993459 : Int32))) (fun x2 => lt1 ((x2 + ((x2.toUInt32 >>> ((4 : Int32).toUInt32 &&& Int32.toUInt32 31)).toInt32)) &&& (252645135 : Int32)) (fun x3 => lt1 (x3 + ((x3.toUInt32 >>> ((8 : Int32).toUInt32 &&& Int32.toUInt32 31)).toInt32)) (fun x4 => lt1 (x4 + ((x4.toUInt32 >>> ((16 : Int32).toUInt32 &&& Int32.toUInt32 31)).toInt32)) (fun x5 => some (x5 &&& 63))))))
def wJ6_bitCount_0f7a4  (_u : Int32) : va_W := []
set_option maxHeartbeats 4000000 in
set_option maxRecDepth 100000 in
theorem mJ6_bitCount_0f7a4 {l : Launch} (D : va_G) (p1 : Int32) (u0 : Int32) (hF : F_J6_bitCount_0f7a4 p1 = some u0) : MI l yJ6_bitCount_0f7a4 wsJ6_bitCount_0f7a4 { frames := 0, cells := 0, slots := 0, locals := 0 } D [] [.int p1] [] (wJ6_bitCount_0f7a4 u0) (u0) := by
  refine MI.ofW (cc := cJ6_bitCount_0f7a4) (maxL := 1) (ret := (some .int)) (lv := [(0, .int p1)]) (by decide +kernel) rfl (Nat.le_of_ble_eq_true rfl) rfl ?_
  intro p e s m args below meth c A ls hx hb hr hml hts hown hlocks hA hK hP hD hS hl
  replace hown : s.vm.findClass RJ6 = some m.cls := hown
  have c_265 := hts (.constant RJ6 265 (1431655765)) (by decide +kernel)
  have c_266 := hts (.constant RJ6 266 (858993459)) (by decide +kernel)
  have c_267 := hts (.constant RJ6 267 (252645135)) (by decide +kernel)
  have hret : ∀ (u : Int32) (v : Int32) (H : Heap) (locs : List Loc) (pc : Nat) (ls : Array Slot), va_P D vwCl (wJ6_bitCount_0f7a4 u) H → va_D A (wJ6_bitCount_0f7a4 u) → va_S A s.heap H locs → some u = some u0 → v = u → decode cJ6_bitCount_0f7a4 pc = .ok (.ireturn, 1) → W p l e { frames := 0, cells := 0, slots := 0, locals := 0 } s m args below meth c H locs 0 0 (QI below D [] (wJ6_bitCount_0f7a4 u0) (u0) args s A) (F0 m pc ls [.int v]) := fun u v H locs pc ls h1 h2 h3 h4 h5 h6 => rI (wf := wJ6_bitCount_0f7a4) (rf := fun u => u) hx hb hr hlocks hK h1 h2 h3 h4 h5 h6
  unfold F_J6_bitCount_0f7a4 at hF
  refine lv_iload_n hx hb dJ6_bitCount_0f7a4_0 rfl (lv_at hl 0 rfl) ?_
  refine lv_iload_n hx hb dJ6_bitCount_0f7a4_1 rfl (lv_at hl 0 rfl) ?_
  refine lv_iconst (v := 1) hx hb dJ6_bitCount_0f7a4_2 (by decide) ?_
  refine lv_iushr hx hb dJ6_bitCount_0f7a4_3 rfl ?_
  refine lv_ldcw (v := 1431655765) hx hb hown c_265 dJ6_bitCount_0f7a4_4 ?_
  refine lv_iand hx hb dJ6_bitCount_0f7a4_7 ?_
  refine lv_isub hx hb dJ6_bitCount_0f7a4_8 ?_
  refine lv_topi (fun x1 ex1 => ?_)
  replace hF := lt1_x ex1 hF
  refine lv_istore_n (lv' := [(0, .int x1)]) hx hb dJ6_bitCount_0f7a4_9 rfl hl (Nat.le_of_ble_eq_true rfl) rfl (fun ls hl => ?_)
  refine lv_iload_n hx hb dJ6_bitCount_0f7a4_10 rfl (lv_at hl 0 rfl) ?_
  refine lv_ldcw (v := 858993459) hx hb hown c_266 dJ6_bitCount_0f7a4_11 ?_
  refine lv_iand hx hb dJ6_bitCount_0f7a4_14 ?_
  refine lv_iload_n hx hb dJ6_bitCount_0f7a4_15 rfl (lv_at hl 0 rfl) ?_
  refine lv_iconst (v := 2) hx hb dJ6_bitCount_0f7a4_16 (by decide) ?_
  refine lv_iushr hx hb dJ6_bitCount_0f7a4_17 rfl ?_
  refine lv_ldcw (v := 858993459) hx hb hown c_266 dJ6_bitCount_0f7a4_18 ?_
  refine lv_iand hx hb dJ6_bitCount_0f7a4_21 ?_
  refine lv_iadd hx hb dJ6_bitCount_0f7a4_22 ?_
  refine lv_topi (fun x2 ex2 => ?_)
  replace hF := lt1_x ex2 hF
  refine lv_istore_n (lv' := [(0, .int x2)]) hx hb dJ6_bitCount_0f7a4_23 rfl hl (Nat.le_of_ble_eq_true rfl) rfl (fun ls hl => ?_)
  refine lv_iload_n hx hb dJ6_bitCount_0f7a4_24 rfl (lv_at hl 0 rfl) ?_
  refine lv_iload_n hx hb dJ6_bitCount_0f7a4_25 rfl (lv_at hl 0 rfl) ?_
  refine lv_iconst (v := 4) hx hb dJ6_bitCount_0f7a4_26 (by decide) ?_
  refine lv_iushr hx hb dJ6_bitCount_0f7a4_27 rfl ?_
  refine lv_iadd hx hb dJ6_bitCount_0f7a4_28 ?_
  refine lv_ldcw (v := 252645135) hx hb hown c_267 dJ6_bitCount_0f7a4_29 ?_
  refine lv_iand hx hb dJ6_bitCount_0f7a4_32 ?_
  refine lv_topi (fun x3 ex3 => ?_)
  replace hF := lt1_x ex3 hF
  refine lv_istore_n (lv' := [(0, .int x3)]) hx hb dJ6_bitCount_0f7a4_33 rfl hl (Nat.le_of_ble_eq_true rfl) rfl (fun ls hl => ?_)
  refine lv_iload_n hx hb dJ6_bitCount_0f7a4_34 rfl (lv_at hl 0 rfl) ?_
  refine lv_iload_n hx hb dJ6_bitCount_0f7a4_35 rfl (lv_at hl 0 rfl) ?_
  refine lv_bipush (v := 8) hx hb dJ6_bitCount_0f7a4_36 (by decide) ?_
  refine lv_iushr hx hb dJ6_bitCount_0f7a4_38 rfl ?_
  refine lv_iadd hx hb dJ6_bitCount_0f7a4_39 ?_
  refine lv_topi (fun x4 ex4 => ?_)
  replace hF := lt1_x ex4 hF
  refine lv_istore_n (lv' := [(0, .int x4)]) hx hb dJ6_bitCount_0f7a4_40 rfl hl (Nat.le_of_ble_eq_true rfl) rfl (fun ls hl => ?_)
  refine lv_iload_n hx hb dJ6_bitCount_0f7a4_41 rfl (lv_at hl 0 rfl) ?_
  refine lv_iload_n hx hb dJ6_bitCount_0f7a4_42 rfl (lv_at hl 0 rfl) ?_
  refine lv_bipush (v := 16) hx hb dJ6_bitCount_0f7a4_43 (by decide) ?_
  refine lv_iushr hx hb dJ6_bitCount_0f7a4_45 rfl ?_
  refine lv_iadd hx hb dJ6_bitCount_0f7a4_46 ?_
  refine lv_topi (fun x5 ex5 => ?_)
  replace hF := lt1_x ex5 hF
  refine lv_istore_n (lv' := [(0, .int x5)]) hx hb dJ6_bitCount_0f7a4_47 rfl hl (Nat.le_of_ble_eq_true rfl) rfl (fun ls hl => ?_)
  refine lv_iload_n hx hb dJ6_bitCount_0f7a4_48 rfl (lv_at hl 0 rfl) ?_
  refine lv_bipush (v := 63) hx hb dJ6_bitCount_0f7a4_49 (by decide) ?_
  refine lv_iand hx hb dJ6_bitCount_0f7a4_51 ?_
  exact hret (x5 &&& 63) (x5 &&& 63) _ _ 52 _ hP hD hS hF rfl dJ6_bitCount_0f7a4_52
def F_X7_dataBits (p1 : Int32)  : Option (Int32) := some (5 + (p1 &&& 3))
def wX7_dataBits  (_u : Int32) : va_W := []
set_option maxHeartbeats 4000000 in
set_option maxRecDepth 100000 in
theorem mX7_dataBits {l : Launch} (D : va_G) (p1 : Int32) (u0 : Int32) (hF : F_X7_dataBits p1 = some u0) : MI l yX7_dataBits wsX7_dataBits { frames := 0, cells := 0, slots := 0, locals := 0 } D [] [.int p1] [] (wX7_dataBits u0) (u0) := by
  refine MI.ofW (cc := cX7_dataBits) (maxL := 1) (ret := (some .int)) (lv := [(0, .int p1)]) (by decide +kernel) rfl (Nat.le_of_ble_eq_true rfl) rfl ?_
  intro p e s m args below meth c A ls hx hb hr hml hts hown hlocks hA hK hP hD hS hl
  replace hown : s.vm.findClass RX7 = some m.cls := hown
  have hret : ∀ (u : Int32) (v : Int32) (H : Heap) (locs : List Loc) (pc : Nat) (ls : Array Slot), va_P D vwCl (wX7_dataBits u) H → va_D A (wX7_dataBits u) → va_S A s.heap H locs → some u = some u0 → v = u → decode cX7_dataBits pc = .ok (.ireturn, 1) → W p l e { frames := 0, cells := 0, slots := 0, locals := 0 } s m args below meth c H locs 0 0 (QI below D [] (wX7_dataBits u0) (u0) args s A) (F0 m pc ls [.int v]) := fun u v H locs pc ls h1 h2 h3 h4 h5 h6 => rI (wf := wX7_dataBits) (rf := fun u => u) hx hb hr hlocks hK h1 h2 h3 h4 h5 h6
  unfold F_X7_dataBits at hF
  refine lv_iconst (v := 5) hx hb dX7_dataBits_0 (by decide) ?_
  refine lv_iload_n hx hb dX7_dataBits_1 rfl (lv_at hl 0 rfl) ?_
  refine lv_iconst (v := 3) hx hb dX7_dataBits_2 (by decide) ?_
  refine lv_iand hx hb dX7_dataBits_3 ?_
  refine lv_iadd hx hb dX7_dataBits_4 ?_
  exact hret (5 + (p1 &&& 3)) (5 + (p1 &&& 3)) _ _ 5 _ hP hD hS hF rfl dX7_dataBits_5
def F_X7_hasParity (p1 : Int32)  : Option (Bool) := if (p1 &&& 8) = 0 then (some false) else (some true)
def wX7_hasParity  (_u : Bool) : va_W := []
set_option maxHeartbeats 4000000 in
set_option maxRecDepth 100000 in
theorem mX7_hasParity {l : Launch} (D : va_G) (p1 : Int32) (u0 : Bool) (hF : F_X7_hasParity p1 = some u0) : MI l yX7_hasParity wsX7_hasParity { frames := 0, cells := 0, slots := 0, locals := 0 } D [] [.int p1] [] (wX7_hasParity u0) (bI u0) := by
  refine MI.ofW (cc := cX7_hasParity) (maxL := 1) (ret := (some .boolean)) (lv := [(0, .int p1)]) (by decide +kernel) rfl (Nat.le_of_ble_eq_true rfl) rfl ?_
  intro p e s m args below meth c A ls hx hb hr hml hts hown hlocks hA hK hP hD hS hl
  replace hown : s.vm.findClass RX7 = some m.cls := hown
  have hret : ∀ (u : Bool) (v : Int32) (H : Heap) (locs : List Loc) (pc : Nat) (ls : Array Slot), va_P D vwCl (wX7_hasParity u) H → va_D A (wX7_hasParity u) → va_S A s.heap H locs → some u = some u0 → v = bI u → decode cX7_hasParity pc = .ok (.ireturn, 1) → W p l e { frames := 0, cells := 0, slots := 0, locals := 0 } s m args below meth c H locs 0 0 (QI below D [] (wX7_hasParity u0) (bI u0) args s A) (F0 m pc ls [.int v]) := fun u v H locs pc ls h1 h2 h3 h4 h5 h6 => rZ (wf := wX7_hasParity) (rf := fun u => u) hx hb hr hlocks hK h1 h2 h3 h4 h5 h6
  unfold F_X7_hasParity at hF
  refine lv_iload_n hx hb dX7_hasParity_0 rfl (lv_at hl 0 rfl) ?_
  refine lv_bipush (v := 8) hx hb dX7_hasParity_1 (by decide) ?_
  refine lv_iand hx hb dX7_hasParity_3 ?_
  refine lv_if_eq (tgt := 11) hx hb dX7_hasParity_4 (by decide) (fun c1 => ?_) (fun c1 => ?_)
  · replace hF := it_t c1 hF
    refine lv_iconst (v := 0) hx hb dX7_hasParity_11 (by decide) ?_
    exact hret false 0 _ _ 12 _ hP hD hS hF rfl dX7_hasParity_12
  · replace hF := it_f c1 hF
    refine lv_iconst (v := 1) hx hb dX7_hasParity_7 (by decide) ?_
    refine lv_goto (tgt := 12) hx hb dX7_hasParity_8 (by decide) ?_
    exact hret true 1 _ _ 12 _ hP hD hS hF rfl dX7_hasParity_12
def F_X7_pieces (p1 : Int32)  : Option (Int32) := bd (F_X7_dataBits p1) (fun u1 => bd (F_X7_hasParity p1) (fun u2 => bt u2 (some (u1 + 3)) (some (u1 + 2))))
def wX7_pieces  (_u : Int32) : va_W := []
set_option maxHeartbeats 4000000 in
set_option maxRecDepth 100000 in
theorem mX7_pieces {l : Launch} (D : va_G) (p1 : Int32) (u0 : Int32) (hF : F_X7_pieces p1 = some u0) : MI l yX7_pieces wsX7_pieces { frames := 1, cells := 0, slots := 0, locals := 20 } D [] [.int p1] [] (wX7_pieces u0) (u0) := by
  refine MI.ofW (cc := cX7_pieces) (maxL := 1) (ret := (some .int)) (lv := [(0, .int p1)]) (by decide +kernel) rfl (Nat.le_of_ble_eq_true rfl) rfl ?_
  intro p e s m args below meth c A ls hx hb hr hml hts hown hlocks hA hK hP hD hS hl
  replace hown : s.vm.findClass RX7 = some m.cls := hown
  have hret : ∀ (u : Int32) (v : Int32) (H : Heap) (locs : List Loc) (pc : Nat) (ls : Array Slot), va_P D vwCl (wX7_pieces u) H → va_D A (wX7_pieces u) → va_S A s.heap H locs → some u = some u0 → v = u → decode cX7_pieces pc = .ok (.ireturn, 1) → W p l e { frames := 1, cells := 0, slots := 0, locals := 20 } s m args below meth c H locs 0 0 (QI below D [] (wX7_pieces u0) (u0) args s A) (F0 m pc ls [.int v]) := fun u v H locs pc ls h1 h2 h3 h4 h5 h6 => rI (wf := wX7_pieces) (rf := fun u => u) hx hb hr hlocks hK h1 h2 h3 h4 h5 h6
  unfold F_X7_pieces at hF
  refine lv_iload_n hx hb dX7_pieces_0 rfl (lv_at hl 0 rfl) ?_
  obtain ⟨u1, hu1, hF⟩ := bd_el hF
  refine cSI (As := [.int p1]) (rest := []) (wr := []) (ws' := []) (rv := u1) ⟨hx, hb, hml, hown, hts⟩ (mX7_dataBits D p1 u1 hu1) (va_cwS 1 hts gX7_pieces_X7_dataBits rfl rfl rfl (by decide +kernel) ⟨Nat.le_of_ble_eq_true rfl, Nat.le_of_ble_eq_true rfl⟩) hK hP hD hS hA [] [] [] [] rfl rfl rfl rfl rfl rfl hl.1 rfl (Nat.le_of_ble_eq_true rfl) rfl dX7_pieces_1 ⟨Nat.le_refl _, Nat.le_refl _⟩ (fun H locs hP hD hS => ?_)
  refine lv_iload_n hx hb dX7_pieces_4 rfl (lv_at hl 0 rfl) ?_
  obtain ⟨u2, hu2, hF⟩ := bd_el hF
  refine cSI (As := [.int p1]) (rest := [.int u1]) (wr := []) (ws' := []) (rv := bI u2) ⟨hx, hb, hml, hown, hts⟩ (mX7_hasParity D p1 u2 hu2) (va_cwS 1 hts gX7_pieces_X7_hasParity rfl rfl rfl (by decide +kernel) ⟨Nat.le_of_ble_eq_true rfl, Nat.le_of_ble_eq_true rfl⟩) hK hP hD hS hA [] [] [] [] rfl rfl rfl rfl rfl rfl hl.1 rfl (Nat.le_of_ble_eq_true rfl) rfl dX7_pieces_5 ⟨Nat.le_refl _, Nat.le_refl _⟩ (fun H locs hP hD hS => ?_)
  refine lv_if_eq (tgt := 15) hx hb dX7_pieces_8 (by decide) (fun c3 => ?_) (fun c3 => ?_)
  · replace hF := bt_f (bI_0 c3) hF
    refine lv_iconst (v := 2) hx hb dX7_pieces_15 (by decide) ?_
    refine lv_iadd hx hb dX7_pieces_16 ?_
    exact hret (u1 + 2) (u1 + 2) _ _ 17 _ hP hD hS hF rfl dX7_pieces_17
  · replace hF := bt_t (bI_n0 c3) hF
    refine lv_iconst (v := 3) hx hb dX7_pieces_11 (by decide) ?_
    refine lv_goto (tgt := 16) hx hb dX7_pieces_12 (by decide) ?_
    refine lv_iadd hx hb dX7_pieces_16 ?_
    exact hret (u1 + 3) (u1 + 3) _ _ 17 _ hP hD hS hF rfl dX7_pieces_17
def F_X7_stopBeats (p1 : Int32)  : Option (Int32) := if (p1 &&& 4) = 0 then (some (16 : Int32)) else (bd (F_X7_dataBits p1) (fun u2 => if u2 = 5 then (some (24 : Int32)) else (some (32 : Int32))))
def wX7_stopBeats  (_u : Int32) : va_W := []
set_option maxHeartbeats 4000000 in
set_option maxRecDepth 100000 in
theorem mX7_stopBeats {l : Launch} (D : va_G) (p1 : Int32) (u0 : Int32) (hF : F_X7_stopBeats p1 = some u0) : MI l yX7_stopBeats wsX7_stopBeats { frames := 1, cells := 0, slots := 0, locals := 20 } D [] [.int p1] [] (wX7_stopBeats u0) (u0) := by
  refine MI.ofW (cc := cX7_stopBeats) (maxL := 1) (ret := (some .int)) (lv := [(0, .int p1)]) (by decide +kernel) rfl (Nat.le_of_ble_eq_true rfl) rfl ?_
  intro p e s m args below meth c A ls hx hb hr hml hts hown hlocks hA hK hP hD hS hl
  replace hown : s.vm.findClass RX7 = some m.cls := hown
  have hret : ∀ (u : Int32) (v : Int32) (H : Heap) (locs : List Loc) (pc : Nat) (ls : Array Slot), va_P D vwCl (wX7_stopBeats u) H → va_D A (wX7_stopBeats u) → va_S A s.heap H locs → some u = some u0 → v = u → decode cX7_stopBeats pc = .ok (.ireturn, 1) → W p l e { frames := 1, cells := 0, slots := 0, locals := 20 } s m args below meth c H locs 0 0 (QI below D [] (wX7_stopBeats u0) (u0) args s A) (F0 m pc ls [.int v]) := fun u v H locs pc ls h1 h2 h3 h4 h5 h6 => rI (wf := wX7_stopBeats) (rf := fun u => u) hx hb hr hlocks hK h1 h2 h3 h4 h5 h6
  unfold F_X7_stopBeats at hF
  refine lv_iload_n hx hb dX7_stopBeats_0 rfl (lv_at hl 0 rfl) ?_
  refine lv_iconst (v := 4) hx hb dX7_stopBeats_1 (by decide) ?_
  refine lv_iand hx hb dX7_stopBeats_2 ?_
  refine lv_if_ne (tgt := 9) hx hb dX7_stopBeats_3 (by decide) (fun c1 => ?_) (fun c1 => ?_)
  · replace hF := it_f c1 hF
    refine lv_iload_n hx hb dX7_stopBeats_9 rfl (lv_at hl 0 rfl) ?_
    obtain ⟨u2, hu2, hF⟩ := bd_el hF
    refine cSI (As := [.int p1]) (rest := []) (wr := []) (ws' := []) (rv := u2) ⟨hx, hb, hml, hown, hts⟩ (mX7_dataBits D p1 u2 hu2) (va_cwS 1 hts gX7_stopBeats_X7_dataBits rfl rfl rfl (by decide +kernel) ⟨Nat.le_of_ble_eq_true rfl, Nat.le_of_ble_eq_true rfl⟩) hK hP hD hS hA [] [] [] [] rfl rfl rfl rfl rfl rfl hl.1 rfl (Nat.le_of_ble_eq_true rfl) rfl dX7_stopBeats_10 ⟨Nat.le_refl _, Nat.le_refl _⟩ (fun H locs hP hD hS => ?_)
    refine lv_iconst (v := 5) hx hb dX7_stopBeats_13 (by decide) ?_
    refine lv_icmp_ne (tgt := 22) hx hb dX7_stopBeats_14 (by decide) (fun c3 => ?_) (fun c3 => ?_)
    · replace hF := it_f c3 hF
      refine lv_bipush (v := 32) hx hb dX7_stopBeats_22 (by decide) ?_
      exact hret (32 : Int32) 32 _ _ 24 _ hP hD hS hF rfl dX7_stopBeats_24
    · replace hF := it_t c3 hF
      refine lv_bipush (v := 24) hx hb dX7_stopBeats_17 (by decide) ?_
      refine lv_goto (tgt := 24) hx hb dX7_stopBeats_19 (by decide) ?_
      exact hret (24 : Int32) 24 _ _ 24 _ hP hD hS hF rfl dX7_stopBeats_24
  · replace hF := it_t c1 hF
    refine lv_bipush (v := 16) hx hb dX7_stopBeats_6 (by decide) ?_
    exact hret (16 : Int32) 16 _ _ 8 _ hP hD hS hF rfl dX7_stopBeats_8
def F_X7_pieceBeats (p1 : Int32) (p2 : Int32)  : Option (Int32) := bd (F_X7_pieces p1) (fun u1 => if p2 = (u1 - 1) then (bd (F_X7_stopBeats p1) (fun u3 => some u3)) else (some (16 : Int32)))
def wX7_pieceBeats  (_u : Int32) : va_W := []
set_option maxHeartbeats 4000000 in
set_option maxRecDepth 100000 in
theorem mX7_pieceBeats {l : Launch} (D : va_G) (p1 : Int32) (p2 : Int32) (u0 : Int32) (hF : F_X7_pieceBeats p1 p2 = some u0) : MI l yX7_pieceBeats wsX7_pieceBeats { frames := 2, cells := 0, slots := 0, locals := 40 } D [] [.int p1, .int p2] [] (wX7_pieceBeats u0) (u0) := by
  refine MI.ofW (cc := cX7_pieceBeats) (maxL := 2) (ret := (some .int)) (lv := [(0, .int p1), (1, .int p2)]) (by decide +kernel) rfl (Nat.le_of_ble_eq_true rfl) rfl ?_
  intro p e s m args below meth c A ls hx hb hr hml hts hown hlocks hA hK hP hD hS hl
  replace hown : s.vm.findClass RX7 = some m.cls := hown
  have hret : ∀ (u : Int32) (v : Int32) (H : Heap) (locs : List Loc) (pc : Nat) (ls : Array Slot), va_P D vwCl (wX7_pieceBeats u) H → va_D A (wX7_pieceBeats u) → va_S A s.heap H locs → some u = some u0 → v = u → decode cX7_pieceBeats pc = .ok (.ireturn, 1) → W p l e { frames := 2, cells := 0, slots := 0, locals := 40 } s m args below meth c H locs 0 0 (QI below D [] (wX7_pieceBeats u0) (u0) args s A) (F0 m pc ls [.int v]) := fun u v H locs pc ls h1 h2 h3 h4 h5 h6 => rI (wf := wX7_pieceBeats) (rf := fun u => u) hx hb hr hlocks hK h1 h2 h3 h4 h5 h6
  unfold F_X7_pieceBeats at hF
  refine lv_iload_n hx hb dX7_pieceBeats_0 rfl (lv_at hl 1 rfl) ?_
  refine lv_iload_n hx hb dX7_pieceBeats_1 rfl (lv_at hl 0 rfl) ?_
  obtain ⟨u1, hu1, hF⟩ := bd_el hF
  refine cSI (As := [.int p1]) (rest := [.int p2]) (wr := []) (ws' := []) (rv := u1) ⟨hx, hb, hml, hown, hts⟩ (mX7_pieces D p1 u1 hu1) (va_cwS 1 hts gX7_pieceBeats_X7_pieces rfl rfl rfl (by decide +kernel) ⟨Nat.le_of_ble_eq_true rfl, Nat.le_of_ble_eq_true rfl⟩) hK hP hD hS hA [] [] [] [] rfl rfl rfl rfl rfl rfl hl.1 rfl (Nat.le_of_ble_eq_true rfl) rfl dX7_pieceBeats_2 ⟨Nat.le_refl _, Nat.le_refl _⟩ (fun H locs hP hD hS => ?_)
  refine lv_iconst (v := 1) hx hb dX7_pieceBeats_5 (by decide) ?_
  refine lv_isub hx hb dX7_pieceBeats_6 ?_
  refine lv_icmp_ne (tgt := 17) hx hb dX7_pieceBeats_7 (by decide) (fun c2 => ?_) (fun c2 => ?_)
  · replace hF := it_f c2 hF
    refine lv_bipush (v := 16) hx hb dX7_pieceBeats_17 (by decide) ?_
    exact hret (16 : Int32) 16 _ _ 19 _ hP hD hS hF rfl dX7_pieceBeats_19
  · replace hF := it_t c2 hF
    refine lv_iload_n hx hb dX7_pieceBeats_10 rfl (lv_at hl 0 rfl) ?_
    obtain ⟨u3, hu3, hF⟩ := bd_el hF
    refine cSI (As := [.int p1]) (rest := []) (wr := []) (ws' := []) (rv := u3) ⟨hx, hb, hml, hown, hts⟩ (mX7_stopBeats D p1 u3 hu3) (va_cwS 1 hts gX7_pieceBeats_X7_stopBeats rfl rfl rfl (by decide +kernel) ⟨Nat.le_of_ble_eq_true rfl, Nat.le_of_ble_eq_true rfl⟩) hK hP hD hS hA [] [] [] [] rfl rfl rfl rfl rfl rfl hl.1 rfl (Nat.le_of_ble_eq_true rfl) rfl dX7_pieceBeats_11 ⟨Nat.le_refl _, Nat.le_refl _⟩ (fun H locs hP hD hS => ?_)
    refine lv_goto (tgt := 19) hx hb dX7_pieceBeats_14 (by decide) ?_
    exact hret u3 u3 _ _ 19 _ hP hD hS hF rfl dX7_pieceBeats_19
def F_X7_beats (p1 : Int32)  : Option (Int32) := bd (F_X7_pieces p1) (fun u1 => bd (F_X7_stopBeats p1) (fun u2 => some (((u1 - 1) * 16) + u2)))
def wX7_beats  (_u : Int32) : va_W := []
set_option maxHeartbeats 4000000 in
set_option maxRecDepth 100000 in
theorem mX7_beats {l : Launch} (D : va_G) (p1 : Int32) (u0 : Int32) (hF : F_X7_beats p1 = some u0) : MI l yX7_beats wsX7_beats { frames := 2, cells := 0, slots := 0, locals := 40 } D [] [.int p1] [] (wX7_beats u0) (u0) := by
  refine MI.ofW (cc := cX7_beats) (maxL := 1) (ret := (some .int)) (lv := [(0, .int p1)]) (by decide +kernel) rfl (Nat.le_of_ble_eq_true rfl) rfl ?_
  intro p e s m args below meth c A ls hx hb hr hml hts hown hlocks hA hK hP hD hS hl
  replace hown : s.vm.findClass RX7 = some m.cls := hown
  have hret : ∀ (u : Int32) (v : Int32) (H : Heap) (locs : List Loc) (pc : Nat) (ls : Array Slot), va_P D vwCl (wX7_beats u) H → va_D A (wX7_beats u) → va_S A s.heap H locs → some u = some u0 → v = u → decode cX7_beats pc = .ok (.ireturn, 1) → W p l e { frames := 2, cells := 0, slots := 0, locals := 40 } s m args below meth c H locs 0 0 (QI below D [] (wX7_beats u0) (u0) args s A) (F0 m pc ls [.int v]) := fun u v H locs pc ls h1 h2 h3 h4 h5 h6 => rI (wf := wX7_beats) (rf := fun u => u) hx hb hr hlocks hK h1 h2 h3 h4 h5 h6
  unfold F_X7_beats at hF
  refine lv_iload_n hx hb dX7_beats_0 rfl (lv_at hl 0 rfl) ?_
  obtain ⟨u1, hu1, hF⟩ := bd_el hF
  refine cSI (As := [.int p1]) (rest := []) (wr := []) (ws' := []) (rv := u1) ⟨hx, hb, hml, hown, hts⟩ (mX7_pieces D p1 u1 hu1) (va_cwS 1 hts gX7_beats_X7_pieces rfl rfl rfl (by decide +kernel) ⟨Nat.le_of_ble_eq_true rfl, Nat.le_of_ble_eq_true rfl⟩) hK hP hD hS hA [] [] [] [] rfl rfl rfl rfl rfl rfl hl.1 rfl (Nat.le_of_ble_eq_true rfl) rfl dX7_beats_1 ⟨Nat.le_refl _, Nat.le_refl _⟩ (fun H locs hP hD hS => ?_)
  refine lv_iconst (v := 1) hx hb dX7_beats_4 (by decide) ?_
  refine lv_isub hx hb dX7_beats_5 ?_
  refine lv_bipush (v := 16) hx hb dX7_beats_6 (by decide) ?_
  refine lv_imul hx hb dX7_beats_8 ?_
  refine lv_iload_n hx hb dX7_beats_9 rfl (lv_at hl 0 rfl) ?_
  obtain ⟨u2, hu2, hF⟩ := bd_el hF
  refine cSI (As := [.int p1]) (rest := [.int ((u1 - 1) * 16)]) (wr := []) (ws' := []) (rv := u2) ⟨hx, hb, hml, hown, hts⟩ (mX7_stopBeats D p1 u2 hu2) (va_cwS 1 hts gX7_beats_X7_stopBeats rfl rfl rfl (by decide +kernel) ⟨Nat.le_of_ble_eq_true rfl, Nat.le_of_ble_eq_true rfl⟩) hK hP hD hS hA [] [] [] [] rfl rfl rfl rfl rfl rfl hl.1 rfl (Nat.le_of_ble_eq_true rfl) rfl dX7_beats_10 ⟨Nat.le_refl _, Nat.le_refl _⟩ (fun H locs hP hD hS => ?_)
  refine lv_iadd hx hb dX7_beats_13 ?_
  exact hret (((u1 - 1) * 16) + u2) (((u1 - 1) * 16) + u2) _ _ 14 _ hP hD hS hF rfl dX7_beats_14
def F_X7_parityIsHigh_55  (s0 : Bool) (l2 : Bool) : Option (Bool) := if (bI l2) = (bI s0) then (some true) else (some false)
def F_X7_parityIsHigh_12  (s0 : Bool) (l0 : Int32) (l1 : Int32) : Option (Bool) := if (l0 &&& 32) = 0 then (bd (F_X7_dataBits l0) (fun u3 => lt1 (l1 &&& ((1 <<< (u3 &&& 31)) - 1)) (fun x4 => bd (F_J6_bitCount_0f7a4 x4) (fun u5 => if (u5 &&& 1) = 0 then (F_X7_parityIsHigh_55  false s0) else (F_X7_parityIsHigh_55  true s0))))) else (bt s0 (some false) (some true))
def F_X7_parityIsHigh (p1 : Int32) (p2 : Int32)  : Option (Bool) := if (p1 &&& 16) = 0 then (F_X7_parityIsHigh_12  false p1 p2) else (F_X7_parityIsHigh_12  true p1 p2)
def wX7_parityIsHigh  (_u : Bool) : va_W := []
set_option maxHeartbeats 4000000 in
set_option maxRecDepth 100000 in
theorem mX7_parityIsHigh {l : Launch} (D : va_G) (p1 : Int32) (p2 : Int32) (u0 : Bool) (hF : F_X7_parityIsHigh p1 p2 = some u0) : MI l yX7_parityIsHigh wsX7_parityIsHigh { frames := 1, cells := 0, slots := 0, locals := 20 } D [] [.int p1, .int p2] [] (wX7_parityIsHigh u0) (bI u0) := by
  refine MI.ofW (cc := cX7_parityIsHigh) (maxL := 5) (ret := (some .boolean)) (lv := [(0, .int p1), (1, .int p2)]) (by decide +kernel) rfl (Nat.le_of_ble_eq_true rfl) rfl ?_
  intro p e s m args below meth c A ls hx hb hr hml hts hown hlocks hA hK hP hD hS hl
  replace hown : s.vm.findClass RX7 = some m.cls := hown
  have hret : ∀ (u : Bool) (v : Int32) (H : Heap) (locs : List Loc) (pc : Nat) (ls : Array Slot), va_P D vwCl (wX7_parityIsHigh u) H → va_D A (wX7_parityIsHigh u) → va_S A s.heap H locs → some u = some u0 → v = bI u → decode cX7_parityIsHigh pc = .ok (.ireturn, 1) → W p l e { frames := 1, cells := 0, slots := 0, locals := 20 } s m args below meth c H locs 0 0 (QI below D [] (wX7_parityIsHigh u0) (bI u0) args s A) (F0 m pc ls [.int v]) := fun u v H locs pc ls h1 h2 h3 h4 h5 h6 => rZ (wf := wX7_parityIsHigh) (rf := fun u => u) hx hb hr hlocks hK h1 h2 h3 h4 h5 h6
  have J55 : ∀ (s0 : Bool) (l2 : Bool) (H : Heap) (locs : List Loc) (ls : Array Slot), F_X7_parityIsHigh_55  s0 l2 = some u0 → lv_has ls 5 [(2, .int (bI l2))] → va_P D vwCl [] H → va_D A [] → va_S A s.heap H locs → W p l e { frames := 1, cells := 0, slots := 0, locals := 20 } s m args below meth c H locs 0 0 (QI below D [] (wX7_parityIsHigh u0) (bI u0) args s A) (F0 m 55 ls [.int (bI s0)]) := by
    intro s0 l2 H locs ls hF hl hP hD hS
    unfold F_X7_parityIsHigh_55 at hF
    refine lv_istore (lv' := [(4, .int (bI s0)), (2, .int (bI l2))]) hx hb dX7_parityIsHigh_55 hl (Nat.le_of_ble_eq_true rfl) rfl (fun ls hl => ?_)
    refine lv_iload_n hx hb dX7_parityIsHigh_57 rfl (lv_at hl 1 rfl) ?_
    refine lv_iload hx hb dX7_parityIsHigh_58 (lv_at hl 0 rfl) ?_
    refine lv_icmp_ne (tgt := 67) hx hb dX7_parityIsHigh_60 (by decide) (fun c1 => ?_) (fun c1 => ?_)
    · replace hF := it_f c1 hF
      refine lv_iconst (v := 0) hx hb dX7_parityIsHigh_67 (by decide) ?_
      exact hret false 0 _ _ 68 _ hP hD hS hF rfl dX7_parityIsHigh_68
    · replace hF := it_t c1 hF
      refine lv_iconst (v := 1) hx hb dX7_parityIsHigh_63 (by decide) ?_
      refine lv_goto (tgt := 68) hx hb dX7_parityIsHigh_64 (by decide) ?_
      exact hret true 1 _ _ 68 _ hP hD hS hF rfl dX7_parityIsHigh_68
  have J12 : ∀ (s0 : Bool) (l0 : Int32) (l1 : Int32) (H : Heap) (locs : List Loc) (ls : Array Slot), F_X7_parityIsHigh_12  s0 l0 l1 = some u0 → lv_has ls 5 [(0, .int l0), (1, .int l1)] → va_P D vwCl [] H → va_D A [] → va_S A s.heap H locs → W p l e { frames := 1, cells := 0, slots := 0, locals := 20 } s m args below meth c H locs 0 0 (QI below D [] (wX7_parityIsHigh u0) (bI u0) args s A) (F0 m 12 ls [.int (bI s0)]) := by
    intro s0 l0 l1 H locs ls hF hl hP hD hS
    unfold F_X7_parityIsHigh_12 at hF
    refine lv_istore_n (lv' := [(2, .int (bI s0)), (0, .int l0), (1, .int l1)]) hx hb dX7_parityIsHigh_12 rfl hl (Nat.le_of_ble_eq_true rfl) rfl (fun ls hl => ?_)
    refine lv_iload_n hx hb dX7_parityIsHigh_13 rfl (lv_at hl 1 rfl) ?_
    refine lv_bipush (v := 32) hx hb dX7_parityIsHigh_14 (by decide) ?_
    refine lv_iand hx hb dX7_parityIsHigh_16 ?_
    refine lv_if_eq (tgt := 30) hx hb dX7_parityIsHigh_17 (by decide) (fun c2 => ?_) (fun c2 => ?_)
    · replace hF := it_t c2 hF
      refine lv_iload_n hx hb dX7_parityIsHigh_30 rfl (lv_at hl 2 rfl) ?_
      refine lv_iconst (v := 1) hx hb dX7_parityIsHigh_31 (by decide) ?_
      refine lv_iload_n hx hb dX7_parityIsHigh_32 rfl (lv_at hl 1 rfl) ?_
      obtain ⟨u3, hu3, hF⟩ := bd_el hF
      refine cSI (As := [.int l0]) (rest := [.int 1, .int l1]) (wr := []) (ws' := []) (rv := u3) ⟨hx, hb, hml, hown, hts⟩ (mX7_dataBits D l0 u3 hu3) (va_cwS 1 hts gX7_parityIsHigh_X7_dataBits rfl rfl rfl (by decide +kernel) ⟨Nat.le_of_ble_eq_true rfl, Nat.le_of_ble_eq_true rfl⟩) hK hP hD hS hA [] [] [] [] rfl rfl rfl rfl rfl rfl hl.1 rfl (Nat.le_of_ble_eq_true rfl) rfl dX7_parityIsHigh_33 ⟨Nat.le_refl _, Nat.le_refl _⟩ (fun H locs hP hD hS => ?_)
      refine lv_ishl hx hb dX7_parityIsHigh_36 ?_
      refine lv_iconst (v := 1) hx hb dX7_parityIsHigh_37 (by decide) ?_
      refine lv_isub hx hb dX7_parityIsHigh_38 ?_
      refine lv_iand hx hb dX7_parityIsHigh_39 ?_
      refine lv_topi (fun x4 ex4 => ?_)
      replace hF := lt1_x ex4 hF
      refine lv_istore_n (lv' := [(3, .int x4), (2, .int (bI s0)), (0, .int l0), (1, .int l1)]) hx hb dX7_parityIsHigh_40 rfl hl (Nat.le_of_ble_eq_true rfl) rfl (fun ls hl => ?_)
      refine lv_iload_n hx hb dX7_parityIsHigh_41 rfl (lv_at hl 0 rfl) ?_
      obtain ⟨u5, hu5, hF⟩ := bd_el hF
      refine cSI (As := [.int x4]) (rest := []) (wr := []) (ws' := []) (rv := u5) ⟨hx, hb, hml, hown, hts⟩ (mJ6_bitCount_0f7a4 D x4 u5 hu5) (va_cwS 1 hts gX7_parityIsHigh_J6_bitCount_0f7a4 rfl rfl rfl (by decide +kernel) ⟨Nat.le_of_ble_eq_true rfl, Nat.le_of_ble_eq_true rfl⟩) hK hP hD hS hA [] [] [] [] rfl rfl rfl rfl rfl rfl hl.1 rfl (Nat.le_of_ble_eq_true rfl) rfl dX7_parityIsHigh_42 ⟨Nat.le_refl _, Nat.le_refl _⟩ (fun H locs hP hD hS => ?_)
      refine lv_iconst (v := 1) hx hb dX7_parityIsHigh_45 (by decide) ?_
      refine lv_iand hx hb dX7_parityIsHigh_46 ?_
      refine lv_if_eq (tgt := 54) hx hb dX7_parityIsHigh_47 (by decide) (fun c6 => ?_) (fun c6 => ?_)
      · replace hF := it_t c6 hF
        refine lv_iconst (v := 0) hx hb dX7_parityIsHigh_54 (by decide) ?_
        exact J55 false s0 _ _ _ hF (lv_sub hl [1] rfl) hP hD hS
      · replace hF := it_f c6 hF
        refine lv_iconst (v := 1) hx hb dX7_parityIsHigh_50 (by decide) ?_
        refine lv_goto (tgt := 55) hx hb dX7_parityIsHigh_51 (by decide) ?_
        exact J55 true s0 _ _ _ hF (lv_sub hl [1] rfl) hP hD hS
    · replace hF := it_f c2 hF
      refine lv_iload_n hx hb dX7_parityIsHigh_20 rfl (lv_at hl 0 rfl) ?_
      refine lv_if_ne (tgt := 28) hx hb dX7_parityIsHigh_21 (by decide) (fun c7 => ?_) (fun c7 => ?_)
      · replace hF := bt_t (bI_n0 c7) hF
        refine lv_iconst (v := 0) hx hb dX7_parityIsHigh_28 (by decide) ?_
        exact hret false 0 _ _ 29 _ hP hD hS hF rfl dX7_parityIsHigh_29
      · replace hF := bt_f (bI_0 c7) hF
        refine lv_iconst (v := 1) hx hb dX7_parityIsHigh_24 (by decide) ?_
        refine lv_goto (tgt := 29) hx hb dX7_parityIsHigh_25 (by decide) ?_
        exact hret true 1 _ _ 29 _ hP hD hS hF rfl dX7_parityIsHigh_29
  unfold F_X7_parityIsHigh at hF
  refine lv_iload_n hx hb dX7_parityIsHigh_0 rfl (lv_at hl 0 rfl) ?_
  refine lv_bipush (v := 16) hx hb dX7_parityIsHigh_1 (by decide) ?_
  refine lv_iand hx hb dX7_parityIsHigh_3 ?_
  refine lv_if_eq (tgt := 11) hx hb dX7_parityIsHigh_4 (by decide) (fun c8 => ?_) (fun c8 => ?_)
  · replace hF := it_t c8 hF
    refine lv_iconst (v := 0) hx hb dX7_parityIsHigh_11 (by decide) ?_
    exact J12 false p1 p2 _ _ _ hF hl hP hD hS
  · replace hF := it_f c8 hF
    refine lv_iconst (v := 1) hx hb dX7_parityIsHigh_7 (by decide) ?_
    refine lv_goto (tgt := 12) hx hb dX7_parityIsHigh_8 (by decide) ?_
    exact J12 true p1 p2 _ _ _ hF hl hP hD hS
def F_X7_pieceIsHigh (p1 : Int32) (p2 : Int32) (p3 : Int32)  : Option (Bool) := bd (F_X7_dataBits p1) (fun u1 => if 0 < p3 then (if u1 < p3 then (if p3 = (u1 + 1) then (bd (F_X7_hasParity p1) (fun u5 => bt u5 (bd (F_X7_parityIsHigh p1 p2) (fun u7 => some u7)) (some true))) else (some true)) else (if ((p2 >>> ((p3 - 1) &&& 31)) &&& 1) = 0 then (some false) else (some true))) else (some false))
def wX7_pieceIsHigh  (_u : Bool) : va_W := []
set_option maxHeartbeats 4000000 in
set_option maxRecDepth 100000 in
theorem mX7_pieceIsHigh {l : Launch} (D : va_G) (p1 : Int32) (p2 : Int32) (p3 : Int32) (u0 : Bool) (hF : F_X7_pieceIsHigh p1 p2 p3 = some u0) : MI l yX7_pieceIsHigh wsX7_pieceIsHigh { frames := 2, cells := 0, slots := 0, locals := 44 } D [] [.int p1, .int p2, .int p3] [] (wX7_pieceIsHigh u0) (bI u0) := by
  refine MI.ofW (cc := cX7_pieceIsHigh) (maxL := 4) (ret := (some .boolean)) (lv := [(0, .int p1), (1, .int p2), (2, .int p3)]) (by decide +kernel) rfl (Nat.le_of_ble_eq_true rfl) rfl ?_
  intro p e s m args below meth c A ls hx hb hr hml hts hown hlocks hA hK hP hD hS hl
  replace hown : s.vm.findClass RX7 = some m.cls := hown
  have hret : ∀ (u : Bool) (v : Int32) (H : Heap) (locs : List Loc) (pc : Nat) (ls : Array Slot), va_P D vwCl (wX7_pieceIsHigh u) H → va_D A (wX7_pieceIsHigh u) → va_S A s.heap H locs → some u = some u0 → v = bI u → decode cX7_pieceIsHigh pc = .ok (.ireturn, 1) → W p l e { frames := 2, cells := 0, slots := 0, locals := 44 } s m args below meth c H locs 0 0 (QI below D [] (wX7_pieceIsHigh u0) (bI u0) args s A) (F0 m pc ls [.int v]) := fun u v H locs pc ls h1 h2 h3 h4 h5 h6 => rZ (wf := wX7_pieceIsHigh) (rf := fun u => u) hx hb hr hlocks hK h1 h2 h3 h4 h5 h6
  unfold F_X7_pieceIsHigh at hF
  refine lv_iload_n hx hb dX7_pieceIsHigh_0 rfl (lv_at hl 0 rfl) ?_
  obtain ⟨u1, hu1, hF⟩ := bd_el hF
  refine cSI (As := [.int p1]) (rest := []) (wr := []) (ws' := []) (rv := u1) ⟨hx, hb, hml, hown, hts⟩ (mX7_dataBits D p1 u1 hu1) (va_cwS 1 hts gX7_pieceIsHigh_X7_dataBits rfl rfl rfl (by decide +kernel) ⟨Nat.le_of_ble_eq_true rfl, Nat.le_of_ble_eq_true rfl⟩) hK hP hD hS hA [] [] [] [] rfl rfl rfl rfl rfl rfl hl.1 rfl (Nat.le_of_ble_eq_true rfl) rfl dX7_pieceIsHigh_1 ⟨Nat.le_refl _, Nat.le_refl _⟩ (fun H locs hP hD hS => ?_)
  refine lv_istore_n (lv' := [(3, .int u1), (0, .int p1), (1, .int p2), (2, .int p3)]) hx hb dX7_pieceIsHigh_4 rfl hl (Nat.le_of_ble_eq_true rfl) rfl (fun ls hl => ?_)
  refine lv_iload_n hx hb dX7_pieceIsHigh_5 rfl (lv_at hl 3 rfl) ?_
  refine lv_if_gt (tgt := 11) hx hb dX7_pieceIsHigh_6 (by decide) (fun c2 => ?_) (fun c2 => ?_)
  · replace hF := it_t c2 hF
    refine lv_iload_n hx hb dX7_pieceIsHigh_11 rfl (lv_at hl 3 rfl) ?_
    refine lv_iload_n hx hb dX7_pieceIsHigh_12 rfl (lv_at hl 0 rfl) ?_
    refine lv_icmp_gt (tgt := 32) hx hb dX7_pieceIsHigh_13 (by decide) (fun c3 => ?_) (fun c3 => ?_)
    · replace hF := it_t c3 hF
      refine lv_iload_n hx hb dX7_pieceIsHigh_32 rfl (lv_at hl 3 rfl) ?_
      refine lv_iload_n hx hb dX7_pieceIsHigh_33 rfl (lv_at hl 0 rfl) ?_
      refine lv_iconst (v := 1) hx hb dX7_pieceIsHigh_34 (by decide) ?_
      refine lv_iadd hx hb dX7_pieceIsHigh_35 ?_
      refine lv_icmp_ne (tgt := 52) hx hb dX7_pieceIsHigh_36 (by decide) (fun c4 => ?_) (fun c4 => ?_)
      · replace hF := it_f c4 hF
        refine lv_iconst (v := 1) hx hb dX7_pieceIsHigh_52 (by decide) ?_
        exact hret true 1 _ _ 53 _ hP hD hS hF rfl dX7_pieceIsHigh_53
      · replace hF := it_t c4 hF
        refine lv_iload_n hx hb dX7_pieceIsHigh_39 rfl (lv_at hl 1 rfl) ?_
        obtain ⟨u5, hu5, hF⟩ := bd_el hF
        refine cSI (As := [.int p1]) (rest := []) (wr := []) (ws' := []) (rv := bI u5) ⟨hx, hb, hml, hown, hts⟩ (mX7_hasParity D p1 u5 hu5) (va_cwS 1 hts gX7_pieceIsHigh_X7_hasParity rfl rfl rfl (by decide +kernel) ⟨Nat.le_of_ble_eq_true rfl, Nat.le_of_ble_eq_true rfl⟩) hK hP hD hS hA [] [] [] [] rfl rfl rfl rfl rfl rfl hl.1 rfl (Nat.le_of_ble_eq_true rfl) rfl dX7_pieceIsHigh_40 ⟨Nat.le_refl _, Nat.le_refl _⟩ (fun H locs hP hD hS => ?_)
        refine lv_if_eq (tgt := 52) hx hb dX7_pieceIsHigh_43 (by decide) (fun c6 => ?_) (fun c6 => ?_)
        · replace hF := bt_f (bI_0 c6) hF
          refine lv_iconst (v := 1) hx hb dX7_pieceIsHigh_52 (by decide) ?_
          exact hret true 1 _ _ 53 _ hP hD hS hF rfl dX7_pieceIsHigh_53
        · replace hF := bt_t (bI_n0 c6) hF
          refine lv_iload_n hx hb dX7_pieceIsHigh_46 rfl (lv_at hl 1 rfl) ?_
          refine lv_iload_n hx hb dX7_pieceIsHigh_47 rfl (lv_at hl 2 rfl) ?_
          obtain ⟨u7, hu7, hF⟩ := bd_el hF
          refine cSI (As := [.int p1, .int p2]) (rest := []) (wr := []) (ws' := []) (rv := bI u7) ⟨hx, hb, hml, hown, hts⟩ (mX7_parityIsHigh D p1 p2 u7 hu7) (va_cwS 2 hts gX7_pieceIsHigh_X7_parityIsHigh rfl rfl rfl (by decide +kernel) ⟨Nat.le_of_ble_eq_true rfl, Nat.le_of_ble_eq_true rfl⟩) hK hP hD hS hA [] [] [] [] rfl rfl rfl rfl rfl rfl hl.1 rfl (Nat.le_of_ble_eq_true rfl) rfl dX7_pieceIsHigh_48 ⟨Nat.le_refl _, Nat.le_refl _⟩ (fun H locs hP hD hS => ?_)
          exact hret u7 (bI u7) _ _ 51 _ hP hD hS hF rfl dX7_pieceIsHigh_51
    · replace hF := it_f c3 hF
      refine lv_iload_n hx hb dX7_pieceIsHigh_16 rfl (lv_at hl 2 rfl) ?_
      refine lv_iload_n hx hb dX7_pieceIsHigh_17 rfl (lv_at hl 3 rfl) ?_
      refine lv_iconst (v := 1) hx hb dX7_pieceIsHigh_18 (by decide) ?_
      refine lv_isub hx hb dX7_pieceIsHigh_19 ?_
      refine lv_ishr hx hb dX7_pieceIsHigh_20 ?_
      refine lv_iconst (v := 1) hx hb dX7_pieceIsHigh_21 (by decide) ?_
      refine lv_iand hx hb dX7_pieceIsHigh_22 ?_
      refine lv_if_eq (tgt := 30) hx hb dX7_pieceIsHigh_23 (by decide) (fun c8 => ?_) (fun c8 => ?_)
      · replace hF := it_t c8 hF
        refine lv_iconst (v := 0) hx hb dX7_pieceIsHigh_30 (by decide) ?_
        exact hret false 0 _ _ 31 _ hP hD hS hF rfl dX7_pieceIsHigh_31
      · replace hF := it_f c8 hF
        refine lv_iconst (v := 1) hx hb dX7_pieceIsHigh_26 (by decide) ?_
        refine lv_goto (tgt := 31) hx hb dX7_pieceIsHigh_27 (by decide) ?_
        exact hret true 1 _ _ 31 _ hP hD hS hF rfl dX7_pieceIsHigh_31
  · replace hF := it_f c2 hF
    refine lv_iconst (v := 0) hx hb dX7_pieceIsHigh_9 (by decide) ?_
    exact hret false 0 _ _ 10 _ hP hD hS hF rfl dX7_pieceIsHigh_10
