theorem dX1_clear_0 : decode cX1_clear 0 = .ok (.aload_n 0, 1) := by decide +kernel
theorem dX1_clear_1 : decode cX1_clear 1 = .ok (.getfield 14, 3) := by decide +kernel
theorem dX1_clear_4 : decode cX1_clear 4 = .ok (.invokevirtual 20, 3) := by decide +kernel
theorem dX1_clear_7 : decode cX1_clear 7 = .ok (.aload_n 0, 1) := by decide +kernel
theorem dX1_clear_8 : decode cX1_clear 8 = .ok (.iconst 1, 1) := by decide +kernel
theorem dX1_clear_9 : decode cX1_clear 9 = .ok (.putfield 23, 3) := by decide +kernel
theorem dX1_clear_12 : decode cX1_clear 12 = .ok (.return_, 1) := by decide +kernel
set_option maxRecDepth 20000 in
theorem ggX1_clear_X5_clear : GoodIn wsX1_clear wsX5_clear := goodIn_r _ [7, 8, 9, 12, 13, 14] (by decide +kernel) (by decide +kernel)
set_option maxRecDepth 20000 in
theorem gX1_clear_X5_clear : GoodIn wsX1_clear (wsV RX1 20 RX5 yX5_clear wsX5_clear) := goodIn_app (goodIn_of _ (by decide +kernel)) ggX1_clear_X5_clear
theorem dX1_pieces_0 : decode cX1_pieces 0 = .ok (.aload_n 0, 1) := by decide +kernel
theorem dX1_pieces_1 : decode cX1_pieces 1 = .ok (.getfield 14, 3) := by decide +kernel
theorem dX1_pieces_4 : decode cX1_pieces 4 = .ok (.invokevirtual 27, 3) := by decide +kernel
theorem dX1_pieces_7 : decode cX1_pieces 7 = .ok (.ireturn, 1) := by decide +kernel
set_option maxRecDepth 20000 in
theorem ggX1_pieces_X5_size : GoodIn wsX1_pieces wsX5_size := goodIn_r _ [6, 7, 10, 11, 12] (by decide +kernel) (by decide +kernel)
set_option maxRecDepth 20000 in
theorem gX1_pieces_X5_size : GoodIn wsX1_pieces (wsV RX1 27 RX5 yX5_size wsX5_size) := goodIn_app (goodIn_of _ (by decide +kernel)) ggX1_pieces_X5_size
theorem dX1_room_0 : decode cX1_room 0 = .ok (.aload_n 0, 1) := by decide +kernel
theorem dX1_room_1 : decode cX1_room 1 = .ok (.getfield 14, 3) := by decide +kernel
theorem dX1_room_4 : decode cX1_room 4 = .ok (.invokevirtual 31, 3) := by decide +kernel
theorem dX1_room_7 : decode cX1_room 7 = .ok (.ireturn, 1) := by decide +kernel
set_option maxRecDepth 20000 in
theorem ggX1_room_X5_room : GoodIn wsX1_room wsX5_room := goodIn_r _ [6, 7, 8, 11, 12, 13] (by decide +kernel) (by decide +kernel)
set_option maxRecDepth 20000 in
theorem gX1_room_X5_room : GoodIn wsX1_room (wsV RX1 31 RX5 yX5_room wsX5_room) := goodIn_app (goodIn_of _ (by decide +kernel)) ggX1_room_X5_room
theorem dX1_append_0 : decode cX1_append 0 = .ok (.aload_n 0, 1) := by decide +kernel
theorem dX1_append_1 : decode cX1_append 1 = .ok (.getfield 14, 3) := by decide +kernel
theorem dX1_append_4 : decode cX1_append 4 = .ok (.iload_n 2, 1) := by decide +kernel
theorem dX1_append_5 : decode cX1_append 5 = .ok (.iconst 2, 1) := by decide +kernel
theorem dX1_append_6 : decode cX1_append 6 = .ok (.imul, 1) := by decide +kernel
theorem dX1_append_7 : decode cX1_append 7 = .ok (.iload_n 1, 1) := by decide +kernel
theorem dX1_append_8 : decode cX1_append 8 = .ok (.ifCond .eq 7, 3) := by decide +kernel
theorem dX1_append_11 : decode cX1_append 11 = .ok (.iconst 1, 1) := by decide +kernel
theorem dX1_append_12 : decode cX1_append 12 = .ok (.goto 4, 3) := by decide +kernel
theorem dX1_append_15 : decode cX1_append 15 = .ok (.iconst 0, 1) := by decide +kernel
theorem dX1_append_16 : decode cX1_append 16 = .ok (.iadd, 1) := by decide +kernel
theorem dX1_append_17 : decode cX1_append 17 = .ok (.invokevirtual 34, 3) := by decide +kernel
theorem dX1_append_20 : decode cX1_append 20 = .ok (.return_, 1) := by decide +kernel
set_option maxRecDepth 20000 in
theorem ggX1_append_X5_add : GoodIn wsX1_append wsX5_add := goodIn_r _ [6, 7, 8, 9, 10, 11, 5, 12, 13, 14, 15, 16, 17, 20, 21, 22] (by decide +kernel) (by decide +kernel)
set_option maxRecDepth 20000 in
theorem gX1_append_X5_add : GoodIn wsX1_append (wsV RX1 34 RX5 yX5_add wsX5_add) := goodIn_app (goodIn_of _ (by decide +kernel)) ggX1_append_X5_add
theorem dX1_next_0 : decode cX1_next 0 = .ok (.aload_n 0, 1) := by decide +kernel
theorem dX1_next_1 : decode cX1_next 1 = .ok (.getfield 14, 3) := by decide +kernel
theorem dX1_next_4 : decode cX1_next 4 = .ok (.invokevirtual 37, 3) := by decide +kernel
theorem dX1_next_7 : decode cX1_next 7 = .ok (.ifCond .ne 51, 3) := by decide +kernel
theorem dX1_next_10 : decode cX1_next 10 = .ok (.aload_n 0, 1) := by decide +kernel
theorem dX1_next_11 : decode cX1_next 11 = .ok (.getfield 14, 3) := by decide +kernel
theorem dX1_next_14 : decode cX1_next 14 = .ok (.invokevirtual 41, 3) := by decide +kernel
theorem dX1_next_17 : decode cX1_next 17 = .ok (.istore_n 1, 1) := by decide +kernel
theorem dX1_next_18 : decode cX1_next 18 = .ok (.aload_n 0, 1) := by decide +kernel
theorem dX1_next_19 : decode cX1_next 19 = .ok (.iload_n 1, 1) := by decide +kernel
theorem dX1_next_20 : decode cX1_next 20 = .ok (.iconst 1, 1) := by decide +kernel
theorem dX1_next_21 : decode cX1_next 21 = .ok (.iand, 1) := by decide +kernel
theorem dX1_next_22 : decode cX1_next 22 = .ok (.ifCond .eq 7, 3) := by decide +kernel
theorem dX1_next_25 : decode cX1_next 25 = .ok (.iconst 1, 1) := by decide +kernel
theorem dX1_next_26 : decode cX1_next 26 = .ok (.goto 4, 3) := by decide +kernel
theorem dX1_next_29 : decode cX1_next 29 = .ok (.iconst 0, 1) := by decide +kernel
theorem dX1_next_30 : decode cX1_next 30 = .ok (.putfield 23, 3) := by decide +kernel
theorem dX1_next_33 : decode cX1_next 33 = .ok (.iload_n 1, 1) := by decide +kernel
theorem dX1_next_34 : decode cX1_next 34 = .ok (.iconst 4, 1) := by decide +kernel
theorem dX1_next_35 : decode cX1_next 35 = .ok (.if_icmp .lt 16, 3) := by decide +kernel
theorem dX1_next_38 : decode cX1_next 38 = .ok (.aload_n 0, 1) := by decide +kernel
theorem dX1_next_39 : decode cX1_next 39 = .ok (.getfield 14, 3) := by decide +kernel
theorem dX1_next_42 : decode cX1_next 42 = .ok (.iload_n 1, 1) := by decide +kernel
theorem dX1_next_43 : decode cX1_next 43 = .ok (.iconst 2, 1) := by decide +kernel
theorem dX1_next_44 : decode cX1_next 44 = .ok (.isub, 1) := by decide +kernel
theorem dX1_next_45 : decode cX1_next 45 = .ok (.invokevirtual 44, 3) := by decide +kernel
theorem dX1_next_48 : decode cX1_next 48 = .ok (.goto 10, 3) := by decide +kernel
theorem dX1_next_51 : decode cX1_next 51 = .ok (.aload_n 0, 1) := by decide +kernel
theorem dX1_next_52 : decode cX1_next 52 = .ok (.getfield 14, 3) := by decide +kernel
theorem dX1_next_55 : decode cX1_next 55 = .ok (.invokevirtual 47, 3) := by decide +kernel
theorem dX1_next_58 : decode cX1_next 58 = .ok (.aload_n 0, 1) := by decide +kernel
theorem dX1_next_59 : decode cX1_next 59 = .ok (.getfield 23, 3) := by decide +kernel
theorem dX1_next_62 : decode cX1_next 62 = .ok (.ireturn, 1) := by decide +kernel
set_option maxRecDepth 20000 in
theorem ggX1_next_X5_isEmpty : GoodIn wsX1_next wsX5_isEmpty := goodIn_r _ [7, 8, 37, 38, 39] (by decide +kernel) (by decide +kernel)
set_option maxRecDepth 20000 in
theorem gX1_next_X5_isEmpty : GoodIn wsX1_next (wsV RX1 37 RX5 yX5_isEmpty wsX5_isEmpty) := goodIn_app (goodIn_of _ (by decide +kernel)) ggX1_next_X5_isEmpty
set_option maxRecDepth 20000 in
theorem ggX1_next_X5_first : GoodIn wsX1_next wsX5_first := goodIn_r _ [12, 13, 14, 15, 6, 16, 8, 17, 18, 19, 20, 21, 22, 37, 38, 39] (by decide +kernel) (by decide +kernel)
set_option maxRecDepth 20000 in
theorem gX1_next_X5_first : GoodIn wsX1_next (wsV RX1 41 RX5 yX5_first wsX5_first) := goodIn_app (goodIn_of _ (by decide +kernel)) ggX1_next_X5_first
set_option maxRecDepth 20000 in
theorem ggX1_next_X5_setFirst : GoodIn wsX1_next wsX5_setFirst := goodIn_r _ [26, 27, 28, 29, 6, 30, 8, 17, 18, 19, 20, 21, 22, 37, 38, 39] (by decide +kernel) (by decide +kernel)
set_option maxRecDepth 20000 in
theorem gX1_next_X5_setFirst : GoodIn wsX1_next (wsV RX1 44 RX5 yX5_setFirst wsX5_setFirst) := goodIn_app (goodIn_of _ (by decide +kernel)) ggX1_next_X5_setFirst
set_option maxRecDepth 20000 in
theorem ggX1_next_X5_dropFirst : GoodIn wsX1_next wsX5_dropFirst := goodIn_r _ [34, 8, 22, 18, 19, 20, 6, 21, 17, 37, 38, 39] (by decide +kernel) (by decide +kernel)
set_option maxRecDepth 20000 in
theorem gX1_next_X5_dropFirst : GoodIn wsX1_next (wsV RX1 47 RX5 yX5_dropFirst wsX5_dropFirst) := goodIn_app (goodIn_of _ (by decide +kernel)) ggX1_next_X5_dropFirst
theorem dX2_clear_0 : decode cX2_clear 0 = .ok (.aload_n 0, 1) := by decide +kernel
theorem dX2_clear_1 : decode cX2_clear 1 = .ok (.getfield 14, 3) := by decide +kernel
theorem dX2_clear_4 : decode cX2_clear 4 = .ok (.invokevirtual 20, 3) := by decide +kernel
theorem dX2_clear_7 : decode cX2_clear 7 = .ok (.aload_n 0, 1) := by decide +kernel
theorem dX2_clear_8 : decode cX2_clear 8 = .ok (.iconst 0, 1) := by decide +kernel
theorem dX2_clear_9 : decode cX2_clear 9 = .ok (.putfield 23, 3) := by decide +kernel
theorem dX2_clear_12 : decode cX2_clear 12 = .ok (.return_, 1) := by decide +kernel
set_option maxRecDepth 20000 in
theorem ggX2_clear_X5_clear : GoodIn wsX2_clear wsX5_clear := goodIn_r _ [7, 8, 9, 12, 13, 14] (by decide +kernel) (by decide +kernel)
set_option maxRecDepth 20000 in
theorem gX2_clear_X5_clear : GoodIn wsX2_clear (wsV RX2 20 RX5 yX5_clear wsX5_clear) := goodIn_app (goodIn_of _ (by decide +kernel)) ggX2_clear_X5_clear
theorem dX2_fromEnd_0 : decode cX2_fromEnd 0 = .ok (.aload_n 0, 1) := by decide +kernel
theorem dX2_fromEnd_1 : decode cX2_fromEnd 1 = .ok (.getfield 14, 3) := by decide +kernel
theorem dX2_fromEnd_4 : decode cX2_fromEnd 4 = .ok (.aload_n 0, 1) := by decide +kernel
theorem dX2_fromEnd_5 : decode cX2_fromEnd 5 = .ok (.getfield 14, 3) := by decide +kernel
theorem dX2_fromEnd_8 : decode cX2_fromEnd 8 = .ok (.invokevirtual 35, 3) := by decide +kernel
theorem dX2_fromEnd_11 : decode cX2_fromEnd 11 = .ok (.iconst 1, 1) := by decide +kernel
theorem dX2_fromEnd_12 : decode cX2_fromEnd 12 = .ok (.isub, 1) := by decide +kernel
theorem dX2_fromEnd_13 : decode cX2_fromEnd 13 = .ok (.iload_n 1, 1) := by decide +kernel
theorem dX2_fromEnd_14 : decode cX2_fromEnd 14 = .ok (.isub, 1) := by decide +kernel
theorem dX2_fromEnd_15 : decode cX2_fromEnd 15 = .ok (.invokevirtual 56, 3) := by decide +kernel
theorem dX2_fromEnd_18 : decode cX2_fromEnd 18 = .ok (.ireturn, 1) := by decide +kernel
set_option maxRecDepth 20000 in
theorem ggX2_fromEnd_X5_size : GoodIn wsX2_fromEnd wsX5_size := goodIn_r _ [6, 7, 20, 21, 22] (by decide +kernel) (by decide +kernel)
set_option maxRecDepth 20000 in
theorem gX2_fromEnd_X5_size : GoodIn wsX2_fromEnd (wsV RX2 35 RX5 yX5_size wsX5_size) := goodIn_app (goodIn_of _ (by decide +kernel)) ggX2_fromEnd_X5_size
set_option maxRecDepth 20000 in
theorem ggX2_fromEnd_X5_at : GoodIn wsX2_fromEnd wsX5_at := goodIn_r _ [11, 7, 12, 13, 14, 15, 5, 16, 17, 20, 21, 22] (by decide +kernel) (by decide +kernel)
set_option maxRecDepth 20000 in
theorem gX2_fromEnd_X5_at : GoodIn wsX2_fromEnd (wsV RX2 56 RX5 yX5_at wsX5_at) := goodIn_app (goodIn_of _ (by decide +kernel)) ggX2_fromEnd_X5_at
theorem dX2_runIsHigh_0 : decode cX2_runIsHigh 0 = .ok (.aload_n 0, 1) := by decide +kernel
theorem dX2_runIsHigh_1 : decode cX2_runIsHigh 1 = .ok (.iload_n 1, 1) := by decide +kernel
theorem dX2_runIsHigh_2 : decode cX2_runIsHigh 2 = .ok (.invokevirtual 39, 3) := by decide +kernel
theorem dX2_runIsHigh_5 : decode cX2_runIsHigh 5 = .ok (.iconst 1, 1) := by decide +kernel
theorem dX2_runIsHigh_6 : decode cX2_runIsHigh 6 = .ok (.iand, 1) := by decide +kernel
theorem dX2_runIsHigh_7 : decode cX2_runIsHigh 7 = .ok (.ifCond .eq 7, 3) := by decide +kernel
theorem dX2_runIsHigh_10 : decode cX2_runIsHigh 10 = .ok (.iconst 1, 1) := by decide +kernel
theorem dX2_runIsHigh_11 : decode cX2_runIsHigh 11 = .ok (.goto 4, 3) := by decide +kernel
theorem dX2_runIsHigh_14 : decode cX2_runIsHigh 14 = .ok (.iconst 0, 1) := by decide +kernel
theorem dX2_runIsHigh_15 : decode cX2_runIsHigh 15 = .ok (.ireturn, 1) := by decide +kernel
set_option maxRecDepth 20000 in
theorem ggX2_runIsHigh_X2_fromEnd : GoodIn wsX2_runIsHigh wsX2_fromEnd := goodIn_r _ [5, 6, 7, 8, 9, 10, 11, 12, 13, 14, 15, 16, 17, 18, 19, 20, 21, 22, 23, 24, 25, 26, 27] (by decide +kernel) (by decide +kernel)
set_option maxRecDepth 20000 in
theorem gX2_runIsHigh_X2_fromEnd : GoodIn wsX2_runIsHigh (wsV RX2 39 RX2 yX2_fromEnd wsX2_fromEnd) := goodIn_app (goodIn_of _ (by decide +kernel)) ggX2_runIsHigh_X2_fromEnd
theorem dX2_isHigh_0 : decode cX2_isHigh 0 = .ok (.aload_n 0, 1) := by decide +kernel
theorem dX2_isHigh_1 : decode cX2_isHigh 1 = .ok (.getfield 14, 3) := by decide +kernel
theorem dX2_isHigh_4 : decode cX2_isHigh 4 = .ok (.invokevirtual 27, 3) := by decide +kernel
theorem dX2_isHigh_7 : decode cX2_isHigh 7 = .ok (.ifCond .ne 11, 3) := by decide +kernel
theorem dX2_isHigh_10 : decode cX2_isHigh 10 = .ok (.aload_n 0, 1) := by decide +kernel
theorem dX2_isHigh_11 : decode cX2_isHigh 11 = .ok (.iconst 0, 1) := by decide +kernel
theorem dX2_isHigh_12 : decode cX2_isHigh 12 = .ok (.invokevirtual 31, 3) := by decide +kernel
theorem dX2_isHigh_15 : decode cX2_isHigh 15 = .ok (.ifCond .eq 7, 3) := by decide +kernel
theorem dX2_isHigh_18 : decode cX2_isHigh 18 = .ok (.iconst 1, 1) := by decide +kernel
theorem dX2_isHigh_19 : decode cX2_isHigh 19 = .ok (.goto 4, 3) := by decide +kernel
theorem dX2_isHigh_22 : decode cX2_isHigh 22 = .ok (.iconst 0, 1) := by decide +kernel
theorem dX2_isHigh_23 : decode cX2_isHigh 23 = .ok (.ireturn, 1) := by decide +kernel
set_option maxRecDepth 20000 in
theorem ggX2_isHigh_X5_isEmpty : GoodIn wsX2_isHigh wsX5_isEmpty := goodIn_r _ [6, 7, 33, 34, 35] (by decide +kernel) (by decide +kernel)
set_option maxRecDepth 20000 in
theorem gX2_isHigh_X5_isEmpty : GoodIn wsX2_isHigh (wsV RX2 27 RX5 yX5_isEmpty wsX5_isEmpty) := goodIn_app (goodIn_of _ (by decide +kernel)) ggX2_isHigh_X5_isEmpty
set_option maxRecDepth 20000 in
theorem ggX2_isHigh_X2_runIsHigh : GoodIn wsX2_isHigh wsX2_runIsHigh := goodIn_r _ [12, 13, 14, 15, 11, 16, 1, 17, 18, 19, 5, 20, 7, 21, 22, 23, 24, 25, 26, 27, 28, 29, 30, 31, 32, 33, 34, 35] (by decide +kernel) (by decide +kernel)
set_option maxRecDepth 20000 in
theorem gX2_isHigh_X2_runIsHigh : GoodIn wsX2_isHigh (wsV RX2 31 RX2 yX2_runIsHigh wsX2_runIsHigh) := goodIn_app (goodIn_of _ (by decide +kernel)) ggX2_isHigh_X2_runIsHigh
theorem dX2_runsInAll_0 : decode cX2_runsInAll 0 = .ok (.aload_n 0, 1) := by decide +kernel
theorem dX2_runsInAll_1 : decode cX2_runsInAll 1 = .ok (.getfield 23, 3) := by decide +kernel
theorem dX2_runsInAll_4 : decode cX2_runsInAll 4 = .ok (.ireturn, 1) := by decide +kernel
theorem dX2_runsKept_0 : decode cX2_runsKept 0 = .ok (.aload_n 0, 1) := by decide +kernel
theorem dX2_runsKept_1 : decode cX2_runsKept 1 = .ok (.getfield 14, 3) := by decide +kernel
theorem dX2_runsKept_4 : decode cX2_runsKept 4 = .ok (.invokevirtual 35, 3) := by decide +kernel
theorem dX2_runsKept_7 : decode cX2_runsKept 7 = .ok (.ireturn, 1) := by decide +kernel
set_option maxRecDepth 20000 in
theorem ggX2_runsKept_X5_size : GoodIn wsX2_runsKept wsX5_size := goodIn_r _ [6, 7, 10, 11, 12] (by decide +kernel) (by decide +kernel)
set_option maxRecDepth 20000 in
theorem gX2_runsKept_X5_size : GoodIn wsX2_runsKept (wsV RX2 35 RX5 yX5_size wsX5_size) := goodIn_app (goodIn_of _ (by decide +kernel)) ggX2_runsKept_X5_size
theorem dX2_runBeats_0 : decode cX2_runBeats 0 = .ok (.aload_n 0, 1) := by decide +kernel
theorem dX2_runBeats_1 : decode cX2_runBeats 1 = .ok (.iload_n 1, 1) := by decide +kernel
theorem dX2_runBeats_2 : decode cX2_runBeats 2 = .ok (.invokevirtual 39, 3) := by decide +kernel
theorem dX2_runBeats_5 : decode cX2_runBeats 5 = .ok (.iconst 1, 1) := by decide +kernel
theorem dX2_runBeats_6 : decode cX2_runBeats 6 = .ok (.ishr, 1) := by decide +kernel
theorem dX2_runBeats_7 : decode cX2_runBeats 7 = .ok (.ireturn, 1) := by decide +kernel
set_option maxRecDepth 20000 in
theorem ggX2_runBeats_X2_fromEnd : GoodIn wsX2_runBeats wsX2_fromEnd := goodIn_r _ [5, 6, 7, 8, 9, 10, 11, 12, 13, 14, 15, 16, 17, 18, 19, 20, 21, 22, 23, 24, 25, 26, 27] (by decide +kernel) (by decide +kernel)
set_option maxRecDepth 20000 in
theorem gX2_runBeats_X2_fromEnd : GoodIn wsX2_runBeats (wsV RX2 39 RX2 yX2_fromEnd wsX2_fromEnd) := goodIn_app (goodIn_of _ (by decide +kernel)) ggX2_runBeats_X2_fromEnd
theorem dX2_append_0 : decode cX2_append 0 = .ok (.aload_n 0, 1) := by decide +kernel
theorem dX2_append_1 : decode cX2_append 1 = .ok (.getfield 14, 3) := by decide +kernel
theorem dX2_append_4 : decode cX2_append 4 = .ok (.invokevirtual 27, 3) := by decide +kernel
theorem dX2_append_7 : decode cX2_append 7 = .ok (.ifCond .ne 36, 3) := by decide +kernel
theorem dX2_append_10 : decode cX2_append 10 = .ok (.aload_n 0, 1) := by decide +kernel
theorem dX2_append_11 : decode cX2_append 11 = .ok (.iconst 0, 1) := by decide +kernel
theorem dX2_append_12 : decode cX2_append 12 = .ok (.invokevirtual 31, 3) := by decide +kernel
theorem dX2_append_15 : decode cX2_append 15 = .ok (.iload_n 1, 1) := by decide +kernel
theorem dX2_append_16 : decode cX2_append 16 = .ok (.if_icmp .ne 27, 3) := by decide +kernel
theorem dX2_append_19 : decode cX2_append 19 = .ok (.aload_n 0, 1) := by decide +kernel
theorem dX2_append_20 : decode cX2_append 20 = .ok (.getfield 14, 3) := by decide +kernel
theorem dX2_append_23 : decode cX2_append 23 = .ok (.aload_n 0, 1) := by decide +kernel
theorem dX2_append_24 : decode cX2_append 24 = .ok (.getfield 14, 3) := by decide +kernel
theorem dX2_append_27 : decode cX2_append 27 = .ok (.invokevirtual 35, 3) := by decide +kernel
theorem dX2_append_30 : decode cX2_append 30 = .ok (.iconst 1, 1) := by decide +kernel
theorem dX2_append_31 : decode cX2_append 31 = .ok (.isub, 1) := by decide +kernel
theorem dX2_append_32 : decode cX2_append 32 = .ok (.aload_n 0, 1) := by decide +kernel
theorem dX2_append_33 : decode cX2_append 33 = .ok (.iconst 0, 1) := by decide +kernel
theorem dX2_append_34 : decode cX2_append 34 = .ok (.invokevirtual 39, 3) := by decide +kernel
theorem dX2_append_37 : decode cX2_append 37 = .ok (.iconst 2, 1) := by decide +kernel
theorem dX2_append_38 : decode cX2_append 38 = .ok (.iadd, 1) := by decide +kernel
theorem dX2_append_39 : decode cX2_append 39 = .ok (.invokevirtual 43, 3) := by decide +kernel
theorem dX2_append_42 : decode cX2_append 42 = .ok (.return_, 1) := by decide +kernel
theorem dX2_append_43 : decode cX2_append 43 = .ok (.aload_n 0, 1) := by decide +kernel
theorem dX2_append_44 : decode cX2_append 44 = .ok (.getfield 14, 3) := by decide +kernel
theorem dX2_append_47 : decode cX2_append 47 = .ok (.invokevirtual 47, 3) := by decide +kernel
theorem dX2_append_50 : decode cX2_append 50 = .ok (.ifCond .ne 10, 3) := by decide +kernel
theorem dX2_append_53 : decode cX2_append 53 = .ok (.aload_n 0, 1) := by decide +kernel
theorem dX2_append_54 : decode cX2_append 54 = .ok (.getfield 14, 3) := by decide +kernel
theorem dX2_append_57 : decode cX2_append 57 = .ok (.invokevirtual 50, 3) := by decide +kernel
theorem dX2_append_60 : decode cX2_append 60 = .ok (.aload_n 0, 1) := by decide +kernel
theorem dX2_append_61 : decode cX2_append 61 = .ok (.getfield 14, 3) := by decide +kernel
theorem dX2_append_64 : decode cX2_append 64 = .ok (.iload_n 1, 1) := by decide +kernel
theorem dX2_append_65 : decode cX2_append 65 = .ok (.ifCond .eq 7, 3) := by decide +kernel
theorem dX2_append_68 : decode cX2_append 68 = .ok (.iconst 3, 1) := by decide +kernel
theorem dX2_append_69 : decode cX2_append 69 = .ok (.goto 4, 3) := by decide +kernel
theorem dX2_append_72 : decode cX2_append 72 = .ok (.iconst 2, 1) := by decide +kernel
theorem dX2_append_73 : decode cX2_append 73 = .ok (.invokevirtual 53, 3) := by decide +kernel
theorem dX2_append_76 : decode cX2_append 76 = .ok (.aload_n 0, 1) := by decide +kernel
theorem dX2_append_77 : decode cX2_append 77 = .ok (.dup, 1) := by decide +kernel
theorem dX2_append_78 : decode cX2_append 78 = .ok (.getfield 23, 3) := by decide +kernel
theorem dX2_append_81 : decode cX2_append 81 = .ok (.iconst 1, 1) := by decide +kernel
theorem dX2_append_82 : decode cX2_append 82 = .ok (.iadd, 1) := by decide +kernel
theorem dX2_append_83 : decode cX2_append 83 = .ok (.putfield 23, 3) := by decide +kernel
theorem dX2_append_86 : decode cX2_append 86 = .ok (.return_, 1) := by decide +kernel
set_option maxRecDepth 20000 in
theorem ggX2_append_X5_isEmpty : GoodIn wsX2_append wsX5_isEmpty := goodIn_r _ [7, 8, 51, 52, 53] (by decide +kernel) (by decide +kernel)
set_option maxRecDepth 20000 in
theorem gX2_append_X5_isEmpty : GoodIn wsX2_append (wsV RX2 27 RX5 yX5_isEmpty wsX5_isEmpty) := goodIn_app (goodIn_of _ (by decide +kernel)) ggX2_append_X5_isEmpty
set_option maxRecDepth 20000 in
theorem ggX2_append_X2_runIsHigh : GoodIn wsX2_append wsX2_runIsHigh := goodIn_r _ [13, 14, 15, 16, 12, 17, 1, 18, 19, 20, 6, 21, 8, 22, 23, 24, 25, 26, 27, 28, 29, 30, 31, 49, 50, 51, 52, 53] (by decide +kernel) (by decide +kernel)
set_option maxRecDepth 20000 in
theorem gX2_append_X2_runIsHigh : GoodIn wsX2_append (wsV RX2 31 RX2 yX2_runIsHigh wsX2_runIsHigh) := goodIn_app (goodIn_of _ (by decide +kernel)) ggX2_append_X2_runIsHigh
set_option maxRecDepth 20000 in
theorem ggX2_append_X5_size : GoodIn wsX2_append wsX5_size := goodIn_r _ [21, 8, 51, 52, 53] (by decide +kernel) (by decide +kernel)
set_option maxRecDepth 20000 in
theorem gX2_append_X5_size : GoodIn wsX2_append (wsV RX2 35 RX5 yX5_size wsX5_size) := goodIn_app (goodIn_of _ (by decide +kernel)) ggX2_append_X5_size
set_option maxRecDepth 20000 in
theorem ggX2_append_X2_fromEnd : GoodIn wsX2_append wsX2_fromEnd := goodIn_r _ [17, 1, 18, 19, 20, 6, 21, 8, 22, 23, 24, 25, 26, 27, 28, 29, 30, 31, 49, 50, 51, 52, 53] (by decide +kernel) (by decide +kernel)
set_option maxRecDepth 20000 in
theorem gX2_append_X2_fromEnd : GoodIn wsX2_append (wsV RX2 39 RX2 yX2_fromEnd wsX2_fromEnd) := goodIn_app (goodIn_of _ (by decide +kernel)) ggX2_append_X2_fromEnd
set_option maxRecDepth 20000 in
theorem ggX2_append_X5_setAt : GoodIn wsX2_append wsX5_setAt := goodIn_r _ [35, 8, 26, 27, 28, 29, 6, 30, 31, 51, 52, 53] (by decide +kernel) (by decide +kernel)
set_option maxRecDepth 20000 in
theorem gX2_append_X5_setAt : GoodIn wsX2_append (wsV RX2 43 RX5 yX5_setAt wsX5_setAt) := goodIn_app (goodIn_of _ (by decide +kernel)) ggX2_append_X5_setAt
set_option maxRecDepth 20000 in
theorem ggX2_append_X5_room : GoodIn wsX2_append wsX5_room := goodIn_r _ [39, 26, 8, 51, 52, 53] (by decide +kernel) (by decide +kernel)
set_option maxRecDepth 20000 in
theorem gX2_append_X5_room : GoodIn wsX2_append (wsV RX2 47 RX5 yX5_room wsX5_room) := goodIn_app (goodIn_of _ (by decide +kernel)) ggX2_append_X5_room
set_option maxRecDepth 20000 in
theorem ggX2_append_X5_dropFirst : GoodIn wsX2_append wsX5_dropFirst := goodIn_r _ [43, 8, 31, 27, 28, 29, 6, 30, 26, 51, 52, 53] (by decide +kernel) (by decide +kernel)
set_option maxRecDepth 20000 in
theorem gX2_append_X5_dropFirst : GoodIn wsX2_append (wsV RX2 50 RX5 yX5_dropFirst wsX5_dropFirst) := goodIn_app (goodIn_of _ (by decide +kernel)) ggX2_append_X5_dropFirst
set_option maxRecDepth 20000 in
theorem ggX2_append_X5_add : GoodIn wsX2_append wsX5_add := goodIn_r _ [47, 8, 26, 48, 33, 34, 6, 35, 27, 28, 29, 30, 31, 51, 52, 53] (by decide +kernel) (by decide +kernel)
set_option maxRecDepth 20000 in
theorem gX2_append_X5_add : GoodIn wsX2_append (wsV RX2 53 RX5 yX5_add wsX5_add) := goodIn_app (goodIn_of _ (by decide +kernel)) ggX2_append_X5_add
def F_X1_clear  (v_high : Bool) (v_wave_head : Int32) (v_wave_size : Int32) : Option (Bool × Int32 × Int32) := bd (F_X5_clear v_wave_head v_wave_size) (fun u1 => some (true, u1.1, u1.2))
def wX1_clear (h_ : Nat) (h_wave : Nat) (h_wave_cells : Nat) (u : Bool × Int32 × Int32) : va_W := [oX1 h_ h_wave u.1, oX5 h_wave h_wave_cells u.2.1 u.2.2]
set_option maxHeartbeats 4000000 in
set_option maxRecDepth 100000 in
theorem mX1_clear {l : Launch} (D : va_G) (h_ : Nat) (h_wave : Nat) (h_wave_cells : Nat) (v_high : Bool) (v_wave_head : Int32) (v_wave_size : Int32) (u0 : Bool × Int32 × Int32) (hF : F_X1_clear v_high v_wave_head v_wave_size = some u0) : MV l yX1_clear wsX1_clear { frames := 1, cells := 0, slots := 0, locals := 20 } D [] [.ref h_] [oX1 h_ h_wave v_high, oX5 h_wave h_wave_cells v_wave_head v_wave_size] (wX1_clear h_ h_wave h_wave_cells u0) := by
  refine MV.ofW (cc := cX1_clear) (maxL := 1) (ret := none) (lv := [(0, .ref h_)]) (by decide +kernel) rfl (Nat.le_of_ble_eq_true rfl) rfl ?_
  intro p e s m args below meth c A ls hx hb hr hml hts hown hlocks hA hK hP hD hS hl
  replace hown : s.vm.findClass RX1 = some m.cls := hown
  have i_X1 : ∀ w ∈ wsX10, w ∈ wsX1_clear := by decide +kernel
  have f_14 := hts (.fieldLink RX1 14 "SerialPort$LineIn" "wave" "LSerialPort$Ring;") (by decide +kernel)
  have f_23 := hts (.fieldLink RX1 23 "SerialPort$LineIn" "high" "Z") (by decide +kernel)
  have hret : ∀ (u : Bool × Int32 × Int32) (H : Heap) (locs : List Loc) (pc : Nat) (ls : Array Slot), va_P D vwCl (wX1_clear h_ h_wave h_wave_cells u) H → va_D A (wX1_clear h_ h_wave h_wave_cells u) → va_S A s.heap H locs → some u = some u0 → decode cX1_clear pc = .ok (.return_, 1) → W p l e { frames := 1, cells := 0, slots := 0, locals := 20 } s m args below meth c H locs 0 0 (QV below D [] (wX1_clear h_ h_wave h_wave_cells u0) args s A) (F0 m pc ls []) := fun u H locs pc ls h1 h2 h3 h4 h5 => rV (wf := wX1_clear h_ h_wave h_wave_cells) hx hb hr hlocks hK h1 h2 h3 h4 h5
  unfold F_X1_clear at hF
  refine lv_aload_n hx hb dX1_clear_0 rfl (lv_at hl 0 rfl) ?_
  refine va_get (D := D) (ci := 1) (v := .ref h_wave) (C := RX1) (T := TX1) (N := 2) hx hb hts i_X1 hown hK hP 0 rfl rfl 0 (Nat.le_of_ble_eq_true rfl) f_14 (fun _ h9 => h9) rfl dX1_clear_1 ?_
  obtain ⟨u1, hu1, hF⟩ := bd_el hF
  refine cVV (q0 := 1) (ci := 5) (As := []) (rest := []) (wr := [oX1 h_ h_wave v_high]) (ws' := [oX1 h_ h_wave v_high, oX5 h_wave h_wave_cells u1.1 u1.2]) ⟨hx, hb, hml, hown, hts⟩ (mX5_clear D h_wave h_wave_cells v_wave_head v_wave_size u1 hu1) (cwV 0 hts gX1_clear_X5_clear rfl rfl rfl (by decide +kernel) ⟨Nat.le_of_ble_eq_true rfl, Nat.le_of_ble_eq_true rfl⟩) hK hP hD hS hA [] [1] [0] [0, 1] rfl rfl rfl rfl rfl rfl rfl rfl rfl hl.1 rfl (Nat.le_of_ble_eq_true rfl) dX1_clear_4 ⟨Nat.le_refl _, Nat.le_refl _⟩ (fun H locs hP hD hS => ?_)
  refine lv_aload_n hx hb dX1_clear_7 rfl (lv_at hl 0 rfl) ?_
  refine lv_iconst (v := 1) hx hb dX1_clear_8 (by decide) ?_
  refine pf (ci := 1) (v := .int (bI true)) (ty := .boolean) (C := RX1) (T := TX1) (N := 2) (ws' := [oX1 h_ h_wave true, oX5 h_wave h_wave_cells u1.1 u1.2]) hx hb hts i_X1 tyX1_ok nmX1 hown hK hP hD hS 0 rfl rfl 1 (Nat.le_of_ble_eq_true rfl) f_23 rfl rfl (by decide +kernel) (nar_bI true) (fit_bI true) (Nat.le_of_ble_eq_true rfl) rfl dX1_clear_9 (fun H locs hP hD hS => ?_)
  exact hret (true, u1.1, u1.2) _ _ 12 _ hP hD hS hF dX1_clear_12
def F_X1_pieces  (v_wave_size : Int32) : Option (Int32) := bd (F_X5_size v_wave_size) (fun u1 => some u1)
def wX1_pieces (h_ : Nat) (h_wave : Nat) (h_wave_cells : Nat) (v_high : Bool) (v_wave_head : Int32) (v_wave_size : Int32) (_u : Int32) : va_W := [oX1 h_ h_wave v_high, oX5 h_wave h_wave_cells v_wave_head v_wave_size]
set_option maxHeartbeats 4000000 in
set_option maxRecDepth 100000 in
theorem mX1_pieces {l : Launch} (D : va_G) (h_ : Nat) (h_wave : Nat) (h_wave_cells : Nat) (v_high : Bool) (v_wave_head : Int32) (v_wave_size : Int32) (u0 : Int32) (hF : F_X1_pieces v_wave_size = some u0) : MI l yX1_pieces wsX1_pieces { frames := 1, cells := 0, slots := 0, locals := 20 } D [] [.ref h_] [oX1 h_ h_wave v_high, oX5 h_wave h_wave_cells v_wave_head v_wave_size] (wX1_pieces h_ h_wave h_wave_cells v_high v_wave_head v_wave_size u0) (u0) := by
  refine MI.ofW (cc := cX1_pieces) (maxL := 1) (ret := (some .int)) (lv := [(0, .ref h_)]) (by decide +kernel) rfl (Nat.le_of_ble_eq_true rfl) rfl ?_
  intro p e s m args below meth c A ls hx hb hr hml hts hown hlocks hA hK hP hD hS hl
  replace hown : s.vm.findClass RX1 = some m.cls := hown
  have i_X1 : ∀ w ∈ wsX10, w ∈ wsX1_pieces := by decide +kernel
  have f_14 := hts (.fieldLink RX1 14 "SerialPort$LineIn" "wave" "LSerialPort$Ring;") (by decide +kernel)
  have hret : ∀ (u : Int32) (v : Int32) (H : Heap) (locs : List Loc) (pc : Nat) (ls : Array Slot), va_P D vwCl (wX1_pieces h_ h_wave h_wave_cells v_high v_wave_head v_wave_size u) H → va_D A (wX1_pieces h_ h_wave h_wave_cells v_high v_wave_head v_wave_size u) → va_S A s.heap H locs → some u = some u0 → v = u → decode cX1_pieces pc = .ok (.ireturn, 1) → W p l e { frames := 1, cells := 0, slots := 0, locals := 20 } s m args below meth c H locs 0 0 (QI below D [] (wX1_pieces h_ h_wave h_wave_cells v_high v_wave_head v_wave_size u0) (u0) args s A) (F0 m pc ls [.int v]) := fun u v H locs pc ls h1 h2 h3 h4 h5 h6 => rI (wf := wX1_pieces h_ h_wave h_wave_cells v_high v_wave_head v_wave_size) (rf := fun u => u) hx hb hr hlocks hK h1 h2 h3 h4 h5 h6
  unfold F_X1_pieces at hF
  refine lv_aload_n hx hb dX1_pieces_0 rfl (lv_at hl 0 rfl) ?_
  refine va_get (D := D) (ci := 1) (v := .ref h_wave) (C := RX1) (T := TX1) (N := 2) hx hb hts i_X1 hown hK hP 0 rfl rfl 0 (Nat.le_of_ble_eq_true rfl) f_14 (fun _ h9 => h9) rfl dX1_pieces_1 ?_
  obtain ⟨u1, hu1, hF⟩ := bd_el hF
  refine cVI (q0 := 1) (ci := 5) (As := []) (rest := []) (wr := [oX1 h_ h_wave v_high]) (ws' := [oX1 h_ h_wave v_high, oX5 h_wave h_wave_cells v_wave_head v_wave_size]) (rv := u1) ⟨hx, hb, hml, hown, hts⟩ (mX5_size D h_wave h_wave_cells v_wave_head v_wave_size u1 hu1) (cwV 0 hts gX1_pieces_X5_size rfl rfl rfl (by decide +kernel) ⟨Nat.le_of_ble_eq_true rfl, Nat.le_of_ble_eq_true rfl⟩) hK hP hD hS hA [] [1] [0] [0, 1] rfl rfl rfl rfl rfl rfl rfl rfl rfl hl.1 rfl (Nat.le_of_ble_eq_true rfl) rfl dX1_pieces_4 ⟨Nat.le_refl _, Nat.le_refl _⟩ (fun H locs hP hD hS => ?_)
  exact hret u1 u1 _ _ 7 _ hP hD hS hF rfl dX1_pieces_7
def F_X1_room  (v_wave_size : Int32) (v_wave_cells_n : Nat) : Option (Int32) := bd (F_X5_room v_wave_size v_wave_cells_n) (fun u1 => some u1)
def wX1_room (k_wave_cells : ClassId) (h_ : Nat) (h_wave : Nat) (h_wave_cells : Nat) (v_high : Bool) (v_wave_head : Int32) (v_wave_size : Int32) (v_wave_cells_n : Nat) (v_wave_cells_a : Nat → Int32) (_u : Int32) : va_W := [oX1 h_ h_wave v_high, oX5 h_wave h_wave_cells v_wave_head v_wave_size, aI h_wave_cells k_wave_cells v_wave_cells_n v_wave_cells_a]
set_option maxHeartbeats 4000000 in
set_option maxRecDepth 100000 in
theorem mX1_room {l : Launch} (D : va_G) (k_wave_cells : ClassId) (h_ : Nat) (h_wave : Nat) (h_wave_cells : Nat) (v_high : Bool) (v_wave_head : Int32) (v_wave_size : Int32) (v_wave_cells_n : Nat) (v_wave_cells_a : Nat → Int32) (u0 : Int32) (hF : F_X1_room v_wave_size v_wave_cells_n = some u0) : MI l yX1_room wsX1_room { frames := 1, cells := 0, slots := 0, locals := 20 } D [(k_wave_cells, .int)] [.ref h_] [oX1 h_ h_wave v_high, oX5 h_wave h_wave_cells v_wave_head v_wave_size, aI h_wave_cells k_wave_cells v_wave_cells_n v_wave_cells_a] (wX1_room k_wave_cells h_ h_wave h_wave_cells v_high v_wave_head v_wave_size v_wave_cells_n v_wave_cells_a u0) (u0) := by
  refine MI.ofW (cc := cX1_room) (maxL := 1) (ret := (some .int)) (lv := [(0, .ref h_)]) (by decide +kernel) rfl (Nat.le_of_ble_eq_true rfl) rfl ?_
  intro p e s m args below meth c A ls hx hb hr hml hts hown hlocks hA hK hP hD hS hl
  replace hown : s.vm.findClass RX1 = some m.cls := hown
  have i_X1 : ∀ w ∈ wsX10, w ∈ wsX1_room := by decide +kernel
  have f_14 := hts (.fieldLink RX1 14 "SerialPort$LineIn" "wave" "LSerialPort$Ring;") (by decide +kernel)
  have hret : ∀ (u : Int32) (v : Int32) (H : Heap) (locs : List Loc) (pc : Nat) (ls : Array Slot), va_P D vwCl (wX1_room k_wave_cells h_ h_wave h_wave_cells v_high v_wave_head v_wave_size v_wave_cells_n v_wave_cells_a u) H → va_D A (wX1_room k_wave_cells h_ h_wave h_wave_cells v_high v_wave_head v_wave_size v_wave_cells_n v_wave_cells_a u) → va_S A s.heap H locs → some u = some u0 → v = u → decode cX1_room pc = .ok (.ireturn, 1) → W p l e { frames := 1, cells := 0, slots := 0, locals := 20 } s m args below meth c H locs 0 0 (QI below D [(k_wave_cells, .int)] (wX1_room k_wave_cells h_ h_wave h_wave_cells v_high v_wave_head v_wave_size v_wave_cells_n v_wave_cells_a u0) (u0) args s A) (F0 m pc ls [.int v]) := fun u v H locs pc ls h1 h2 h3 h4 h5 h6 => rI (wf := wX1_room k_wave_cells h_ h_wave h_wave_cells v_high v_wave_head v_wave_size v_wave_cells_n v_wave_cells_a) (rf := fun u => u) hx hb hr hlocks hK h1 h2 h3 h4 h5 h6
  unfold F_X1_room at hF
  refine lv_aload_n hx hb dX1_room_0 rfl (lv_at hl 0 rfl) ?_
  refine va_get (D := D) (ci := 1) (v := .ref h_wave) (C := RX1) (T := TX1) (N := 2) hx hb hts i_X1 hown hK hP 0 rfl rfl 0 (Nat.le_of_ble_eq_true rfl) f_14 (fun _ h9 => h9) rfl dX1_room_1 ?_
  obtain ⟨u1, hu1, hF⟩ := bd_el hF
  refine cVI (q0 := 1) (ci := 5) (As := []) (rest := []) (wr := [oX1 h_ h_wave v_high]) (ws' := [oX1 h_ h_wave v_high, oX5 h_wave h_wave_cells v_wave_head v_wave_size, aI h_wave_cells k_wave_cells v_wave_cells_n v_wave_cells_a]) (rv := u1) ⟨hx, hb, hml, hown, hts⟩ (mX5_room D k_wave_cells h_wave h_wave_cells v_wave_head v_wave_size v_wave_cells_n v_wave_cells_a u1 hu1) (cwV 0 hts gX1_room_X5_room rfl rfl rfl (by decide +kernel) ⟨Nat.le_of_ble_eq_true rfl, Nat.le_of_ble_eq_true rfl⟩) hK hP hD hS hA [0] [1, 2] [0] [0, 1, 2] rfl rfl rfl rfl rfl rfl rfl rfl rfl hl.1 rfl (Nat.le_of_ble_eq_true rfl) rfl dX1_room_4 ⟨Nat.le_refl _, Nat.le_refl _⟩ (fun H locs hP hD hS => ?_)
  exact hret u1 u1 _ _ 7 _ hP hD hS hF rfl dX1_room_7
def F_X1_append_16 (v_wave_head : Int32) (v_wave_cells_n : Nat) (s1 : Int32) (s2 : Bool) (v_wave_size : Int32) (v_wave_cells_a : Nat → Int32) : Option (Int32 × (Nat → Int32)) := bd (F_X5_add (s1 + (bI s2)) v_wave_head v_wave_size v_wave_cells_n v_wave_cells_a) (fun u1 => some (u1.1, u1.2))
def F_X1_append (p1 : Bool) (p2 : Int32) (v_wave_head : Int32) (v_wave_size : Int32) (v_wave_cells_n : Nat) (v_wave_cells_a : Nat → Int32) : Option (Int32 × (Nat → Int32)) := bt p1 (F_X1_append_16 v_wave_head v_wave_cells_n (p2 * 2) true v_wave_size v_wave_cells_a) (F_X1_append_16 v_wave_head v_wave_cells_n (p2 * 2) false v_wave_size v_wave_cells_a)
def wX1_append (k_wave_cells : ClassId) (h_ : Nat) (h_wave : Nat) (h_wave_cells : Nat) (v_high : Bool) (v_wave_head : Int32) (v_wave_cells_n : Nat) (u : Int32 × (Nat → Int32)) : va_W := [oX1 h_ h_wave v_high, oX5 h_wave h_wave_cells v_wave_head u.1, aI h_wave_cells k_wave_cells v_wave_cells_n u.2]
set_option maxHeartbeats 4000000 in
set_option maxRecDepth 100000 in
theorem mX1_append {l : Launch} (D : va_G) (k_wave_cells : ClassId) (h_ : Nat) (h_wave : Nat) (h_wave_cells : Nat) (v_high : Bool) (v_wave_head : Int32) (v_wave_size : Int32) (v_wave_cells_n : Nat) (v_wave_cells_a : Nat → Int32) (p1 : Bool) (p2 : Int32) (u0 : Int32 × (Nat → Int32)) (hF : F_X1_append p1 p2 v_wave_head v_wave_size v_wave_cells_n v_wave_cells_a = some u0) : MV l yX1_append wsX1_append { frames := 3, cells := 0, slots := 0, locals := 66 } D [(k_wave_cells, .int)] [.ref h_, .int (bI p1), .int p2] [oX1 h_ h_wave v_high, oX5 h_wave h_wave_cells v_wave_head v_wave_size, aI h_wave_cells k_wave_cells v_wave_cells_n v_wave_cells_a] (wX1_append k_wave_cells h_ h_wave h_wave_cells v_high v_wave_head v_wave_cells_n u0) := by
  refine MV.ofW (cc := cX1_append) (maxL := 3) (ret := none) (lv := [(0, .ref h_), (1, .int (bI p1)), (2, .int p2)]) (by decide +kernel) rfl (Nat.le_of_ble_eq_true rfl) rfl ?_
  intro p e s m args below meth c A ls hx hb hr hml hts hown hlocks hA hK hP hD hS hl
  replace hown : s.vm.findClass RX1 = some m.cls := hown
  have i_X1 : ∀ w ∈ wsX10, w ∈ wsX1_append := by decide +kernel
  have f_14 := hts (.fieldLink RX1 14 "SerialPort$LineIn" "wave" "LSerialPort$Ring;") (by decide +kernel)
  have hret : ∀ (u : Int32 × (Nat → Int32)) (H : Heap) (locs : List Loc) (pc : Nat) (ls : Array Slot), va_P D vwCl (wX1_append k_wave_cells h_ h_wave h_wave_cells v_high v_wave_head v_wave_cells_n u) H → va_D A (wX1_append k_wave_cells h_ h_wave h_wave_cells v_high v_wave_head v_wave_cells_n u) → va_S A s.heap H locs → some u = some u0 → decode cX1_append pc = .ok (.return_, 1) → W p l e { frames := 3, cells := 0, slots := 0, locals := 66 } s m args below meth c H locs 0 0 (QV below D [(k_wave_cells, .int)] (wX1_append k_wave_cells h_ h_wave h_wave_cells v_high v_wave_head v_wave_cells_n u0) args s A) (F0 m pc ls []) := fun u H locs pc ls h1 h2 h3 h4 h5 => rV (wf := wX1_append k_wave_cells h_ h_wave h_wave_cells v_high v_wave_head v_wave_cells_n) hx hb hr hlocks hK h1 h2 h3 h4 h5
  have J16 : ∀ (s1 : Int32) (s2 : Bool) (v_wave_size : Int32) (v_wave_cells_a : Nat → Int32) (H : Heap) (locs : List Loc) (ls : Array Slot), F_X1_append_16 v_wave_head v_wave_cells_n s1 s2 v_wave_size v_wave_cells_a = some u0 → lv_has ls 3 [] → va_P D vwCl [oX1 h_ h_wave v_high, oX5 h_wave h_wave_cells v_wave_head v_wave_size, aI h_wave_cells k_wave_cells v_wave_cells_n v_wave_cells_a] H → va_D A [oX1 h_ h_wave v_high, oX5 h_wave h_wave_cells v_wave_head v_wave_size, aI h_wave_cells k_wave_cells v_wave_cells_n v_wave_cells_a] → va_S A s.heap H locs → W p l e { frames := 3, cells := 0, slots := 0, locals := 66 } s m args below meth c H locs 0 0 (QV below D [(k_wave_cells, .int)] (wX1_append k_wave_cells h_ h_wave h_wave_cells v_high v_wave_head v_wave_cells_n u0) args s A) (F0 m 16 ls [.int (bI s2), .int s1, .ref h_wave]) := by
    intro s1 s2 v_wave_size v_wave_cells_a H locs ls hF hl hP hD hS
    unfold F_X1_append_16 at hF
    refine lv_iadd hx hb dX1_append_16 ?_
    obtain ⟨u1, hu1, hF⟩ := bd_el hF
    refine cVV (q0 := 1) (ci := 5) (As := [.int (s1 + (bI s2))]) (rest := []) (wr := [oX1 h_ h_wave v_high]) (ws' := [oX1 h_ h_wave v_high, oX5 h_wave h_wave_cells v_wave_head u1.1, aI h_wave_cells k_wave_cells v_wave_cells_n u1.2]) ⟨hx, hb, hml, hown, hts⟩ (mX5_add D k_wave_cells h_wave h_wave_cells v_wave_head v_wave_size v_wave_cells_n v_wave_cells_a (s1 + (bI s2)) u1 hu1) (cwV 1 hts gX1_append_X5_add rfl rfl rfl (by decide +kernel) ⟨Nat.le_of_ble_eq_true rfl, Nat.le_of_ble_eq_true rfl⟩) hK hP hD hS hA [0] [1, 2] [0] [0, 1, 2] rfl rfl rfl rfl rfl rfl rfl rfl rfl hl.1 rfl (Nat.le_of_ble_eq_true rfl) dX1_append_17 ⟨Nat.le_refl _, Nat.le_refl _⟩ (fun H locs hP hD hS => ?_)
    exact hret (u1.1, u1.2) _ _ 20 _ hP hD hS hF dX1_append_20
  unfold F_X1_append at hF
  refine lv_aload_n hx hb dX1_append_0 rfl (lv_at hl 0 rfl) ?_
  refine va_get (D := D) (ci := 1) (v := .ref h_wave) (C := RX1) (T := TX1) (N := 2) hx hb hts i_X1 hown hK hP 0 rfl rfl 0 (Nat.le_of_ble_eq_true rfl) f_14 (fun _ h9 => h9) rfl dX1_append_1 ?_
  refine lv_iload_n hx hb dX1_append_4 rfl (lv_at hl 2 rfl) ?_
  refine lv_iconst (v := 2) hx hb dX1_append_5 (by decide) ?_
  refine lv_imul hx hb dX1_append_6 ?_
  refine lv_iload_n hx hb dX1_append_7 rfl (lv_at hl 1 rfl) ?_
  refine lv_if_eq (tgt := 15) hx hb dX1_append_8 (by decide) (fun c2 => ?_) (fun c2 => ?_)
  · replace hF := bt_f (bI_0 c2) hF
    refine lv_iconst (v := 0) hx hb dX1_append_15 (by decide) ?_
    exact J16 (p2 * 2) false v_wave_size v_wave_cells_a _ _ _ hF (lv_sub hl [] rfl) hP hD hS
  · replace hF := bt_t (bI_n0 c2) hF
    refine lv_iconst (v := 1) hx hb dX1_append_11 (by decide) ?_
    refine lv_goto (tgt := 16) hx hb dX1_append_12 (by decide) ?_
    exact J16 (p2 * 2) true v_wave_size v_wave_cells_a _ _ _ hF (lv_sub hl [] rfl) hP hD hS
def F_X1_next_30 (v_wave_cells_n : Nat) (s1 : Bool) (l1 : Int32) (v_high : Bool) (v_wave_head : Int32) (v_wave_size : Int32) (v_wave_cells_a : Nat → Int32) : Option (Bool × Bool × Int32 × Int32 × (Nat → Int32)) := if l1 < 4 then (bd (F_X5_dropFirst v_wave_head v_wave_size v_wave_cells_n) (fun u2 => some (s1, s1, u2.1, u2.2, v_wave_cells_a))) else (bd (F_X5_setFirst (l1 - 2) v_wave_head v_wave_size v_wave_cells_n v_wave_cells_a) (fun u3 => some (s1, s1, v_wave_head, v_wave_size, u3)))
def F_X1_next  (v_high : Bool) (v_wave_head : Int32) (v_wave_size : Int32) (v_wave_cells_n : Nat) (v_wave_cells_a : Nat → Int32) : Option (Bool × Bool × Int32 × Int32 × (Nat → Int32)) := bd (F_X5_isEmpty v_wave_size) (fun u4 => bt u4 (some (v_high, v_high, v_wave_head, v_wave_size, v_wave_cells_a)) (bd (F_X5_first v_wave_head v_wave_size v_wave_cells_n v_wave_cells_a) (fun u6 => if (u6 &&& 1) = 0 then (F_X1_next_30 v_wave_cells_n false u6 v_high v_wave_head v_wave_size v_wave_cells_a) else (F_X1_next_30 v_wave_cells_n true u6 v_high v_wave_head v_wave_size v_wave_cells_a))))
def wX1_next (k_wave_cells : ClassId) (h_ : Nat) (h_wave : Nat) (h_wave_cells : Nat) (v_wave_cells_n : Nat) (u : Bool × Bool × Int32 × Int32 × (Nat → Int32)) : va_W := [oX1 h_ h_wave u.2.1, oX5 h_wave h_wave_cells u.2.2.1 u.2.2.2.1, aI h_wave_cells k_wave_cells v_wave_cells_n u.2.2.2.2]
set_option maxHeartbeats 4000000 in
set_option maxRecDepth 100000 in
theorem mX1_next {l : Launch} (D : va_G) (k_wave_cells : ClassId) (h_ : Nat) (h_wave : Nat) (h_wave_cells : Nat) (v_high : Bool) (v_wave_head : Int32) (v_wave_size : Int32) (v_wave_cells_n : Nat) (v_wave_cells_a : Nat → Int32) (u0 : Bool × Bool × Int32 × Int32 × (Nat → Int32)) (hF : F_X1_next v_high v_wave_head v_wave_size v_wave_cells_n v_wave_cells_a = some u0) : MI l yX1_next wsX1_next { frames := 3, cells := 0, slots := 0, locals := 66 } D [(k_wave_cells, .int)] [.ref h_] [oX1 h_ h_wave v_high, oX5 h_wave h_wave_cells v_wave_head v_wave_size, aI h_wave_cells k_wave_cells v_wave_cells_n v_wave_cells_a] (wX1_next k_wave_cells h_ h_wave h_wave_cells v_wave_cells_n u0) (bI u0.1) := by
  refine MI.ofW (cc := cX1_next) (maxL := 2) (ret := (some .boolean)) (lv := [(0, .ref h_)]) (by decide +kernel) rfl (Nat.le_of_ble_eq_true rfl) rfl ?_
  intro p e s m args below meth c A ls hx hb hr hml hts hown hlocks hA hK hP hD hS hl
  replace hown : s.vm.findClass RX1 = some m.cls := hown
  have i_X1 : ∀ w ∈ wsX10, w ∈ wsX1_next := by decide +kernel
  have f_14 := hts (.fieldLink RX1 14 "SerialPort$LineIn" "wave" "LSerialPort$Ring;") (by decide +kernel)
  have f_23 := hts (.fieldLink RX1 23 "SerialPort$LineIn" "high" "Z") (by decide +kernel)
  have hret : ∀ (u : Bool × Bool × Int32 × Int32 × (Nat → Int32)) (v : Int32) (H : Heap) (locs : List Loc) (pc : Nat) (ls : Array Slot), va_P D vwCl (wX1_next k_wave_cells h_ h_wave h_wave_cells v_wave_cells_n u) H → va_D A (wX1_next k_wave_cells h_ h_wave h_wave_cells v_wave_cells_n u) → va_S A s.heap H locs → some u = some u0 → v = bI u.1 → decode cX1_next pc = .ok (.ireturn, 1) → W p l e { frames := 3, cells := 0, slots := 0, locals := 66 } s m args below meth c H locs 0 0 (QI below D [(k_wave_cells, .int)] (wX1_next k_wave_cells h_ h_wave h_wave_cells v_wave_cells_n u0) (bI u0.1) args s A) (F0 m pc ls [.int v]) := fun u v H locs pc ls h1 h2 h3 h4 h5 h6 => rZ (wf := wX1_next k_wave_cells h_ h_wave h_wave_cells v_wave_cells_n) (rf := fun u => u.1) hx hb hr hlocks hK h1 h2 h3 h4 h5 h6
  have J30 : ∀ (s1 : Bool) (l1 : Int32) (v_high : Bool) (v_wave_head : Int32) (v_wave_size : Int32) (v_wave_cells_a : Nat → Int32) (H : Heap) (locs : List Loc) (ls : Array Slot), F_X1_next_30 v_wave_cells_n s1 l1 v_high v_wave_head v_wave_size v_wave_cells_a = some u0 → lv_has ls 2 [(0, .ref h_), (1, .int l1)] → va_P D vwCl [oX1 h_ h_wave v_high, oX5 h_wave h_wave_cells v_wave_head v_wave_size, aI h_wave_cells k_wave_cells v_wave_cells_n v_wave_cells_a] H → va_D A [oX1 h_ h_wave v_high, oX5 h_wave h_wave_cells v_wave_head v_wave_size, aI h_wave_cells k_wave_cells v_wave_cells_n v_wave_cells_a] → va_S A s.heap H locs → W p l e { frames := 3, cells := 0, slots := 0, locals := 66 } s m args below meth c H locs 0 0 (QI below D [(k_wave_cells, .int)] (wX1_next k_wave_cells h_ h_wave h_wave_cells v_wave_cells_n u0) (bI u0.1) args s A) (F0 m 30 ls [.int (bI s1), .ref h_]) := by
    intro s1 l1 v_high v_wave_head v_wave_size v_wave_cells_a H locs ls hF hl hP hD hS
    unfold F_X1_next_30 at hF
    refine pf (ci := 1) (v := .int (bI s1)) (ty := .boolean) (C := RX1) (T := TX1) (N := 2) (ws' := [oX1 h_ h_wave s1, oX5 h_wave h_wave_cells v_wave_head v_wave_size, aI h_wave_cells k_wave_cells v_wave_cells_n v_wave_cells_a]) hx hb hts i_X1 tyX1_ok nmX1 hown hK hP hD hS 0 rfl rfl 1 (Nat.le_of_ble_eq_true rfl) f_23 rfl rfl (by decide +kernel) (nar_bI s1) (fit_bI s1) (Nat.le_of_ble_eq_true rfl) rfl dX1_next_30 (fun H locs hP hD hS => ?_)
    refine lv_iload_n hx hb dX1_next_33 rfl (lv_at hl 1 rfl) ?_
    refine lv_iconst (v := 4) hx hb dX1_next_34 (by decide) ?_
    refine lv_icmp_lt (tgt := 51) hx hb dX1_next_35 (by decide) (fun c1 => ?_) (fun c1 => ?_)
    · replace hF := it_t c1 hF
      refine lv_aload_n hx hb dX1_next_51 rfl (lv_at hl 0 rfl) ?_
      refine va_get (D := D) (ci := 1) (v := .ref h_wave) (C := RX1) (T := TX1) (N := 2) hx hb hts i_X1 hown hK hP 0 rfl rfl 0 (Nat.le_of_ble_eq_true rfl) f_14 (fun _ h9 => h9) rfl dX1_next_52 ?_
      obtain ⟨u2, hu2, hF⟩ := bd_el hF
      refine cVV (q0 := 1) (ci := 5) (As := []) (rest := []) (wr := [oX1 h_ h_wave s1]) (ws' := [oX1 h_ h_wave s1, oX5 h_wave h_wave_cells u2.1 u2.2, aI h_wave_cells k_wave_cells v_wave_cells_n v_wave_cells_a]) ⟨hx, hb, hml, hown, hts⟩ (mX5_dropFirst D k_wave_cells h_wave h_wave_cells v_wave_head v_wave_size v_wave_cells_n v_wave_cells_a u2 hu2) (cwV 0 hts gX1_next_X5_dropFirst rfl rfl rfl (by decide +kernel) ⟨Nat.le_of_ble_eq_true rfl, Nat.le_of_ble_eq_true rfl⟩) hK hP hD hS hA [0] [1, 2] [0] [0, 1, 2] rfl rfl rfl rfl rfl rfl rfl rfl rfl hl.1 rfl (Nat.le_of_ble_eq_true rfl) dX1_next_55 ⟨Nat.le_refl _, Nat.le_refl _⟩ (fun H locs hP hD hS => ?_)
      refine lv_aload_n hx hb dX1_next_58 rfl (lv_at hl 0 rfl) ?_
      refine va_get (D := D) (ci := 1) (v := .int (bI s1)) (C := RX1) (T := TX1) (N := 2) hx hb hts i_X1 hown hK hP 0 rfl rfl 1 (Nat.le_of_ble_eq_true rfl) f_23 (fun _ h9 => h9) rfl dX1_next_59 ?_
      exact hret (s1, s1, u2.1, u2.2, v_wave_cells_a) (bI s1) _ _ 62 _ hP hD hS hF rfl dX1_next_62
    · replace hF := it_f c1 hF
      refine lv_aload_n hx hb dX1_next_38 rfl (lv_at hl 0 rfl) ?_
      refine va_get (D := D) (ci := 1) (v := .ref h_wave) (C := RX1) (T := TX1) (N := 2) hx hb hts i_X1 hown hK hP 0 rfl rfl 0 (Nat.le_of_ble_eq_true rfl) f_14 (fun _ h9 => h9) rfl dX1_next_39 ?_
      refine lv_iload_n hx hb dX1_next_42 rfl (lv_at hl 1 rfl) ?_
      refine lv_iconst (v := 2) hx hb dX1_next_43 (by decide) ?_
      refine lv_isub hx hb dX1_next_44 ?_
      obtain ⟨u3, hu3, hF⟩ := bd_el hF
      refine cVV (q0 := 1) (ci := 5) (As := [.int (l1 - 2)]) (rest := []) (wr := [oX1 h_ h_wave s1]) (ws' := [oX1 h_ h_wave s1, oX5 h_wave h_wave_cells v_wave_head v_wave_size, aI h_wave_cells k_wave_cells v_wave_cells_n u3]) ⟨hx, hb, hml, hown, hts⟩ (mX5_setFirst D k_wave_cells h_wave h_wave_cells v_wave_head v_wave_size v_wave_cells_n v_wave_cells_a (l1 - 2) u3 hu3) (cwV 1 hts gX1_next_X5_setFirst rfl rfl rfl (by decide +kernel) ⟨Nat.le_of_ble_eq_true rfl, Nat.le_of_ble_eq_true rfl⟩) hK hP hD hS hA [0] [1, 2] [0] [0, 1, 2] rfl rfl rfl rfl rfl rfl rfl rfl rfl hl.1 rfl (Nat.le_of_ble_eq_true rfl) dX1_next_45 ⟨Nat.le_refl _, Nat.le_refl _⟩ (fun H locs hP hD hS => ?_)
      refine lv_goto (tgt := 58) hx hb dX1_next_48 (by decide) ?_
      refine lv_aload_n hx hb dX1_next_58 rfl (lv_at hl 0 rfl) ?_
      refine va_get (D := D) (ci := 1) (v := .int (bI s1)) (C := RX1) (T := TX1) (N := 2) hx hb hts i_X1 hown hK hP 0 rfl rfl 1 (Nat.le_of_ble_eq_true rfl) f_23 (fun _ h9 => h9) rfl dX1_next_59 ?_
      exact hret (s1, s1, v_wave_head, v_wave_size, u3) (bI s1) _ _ 62 _ hP hD hS hF rfl dX1_next_62
  unfold F_X1_next at hF
  refine lv_aload_n hx hb dX1_next_0 rfl (lv_at hl 0 rfl) ?_
  refine va_get (D := D) (ci := 1) (v := .ref h_wave) (C := RX1) (T := TX1) (N := 2) hx hb hts i_X1 hown hK hP 0 rfl rfl 0 (Nat.le_of_ble_eq_true rfl) f_14 (fun _ h9 => h9) rfl dX1_next_1 ?_
  obtain ⟨u4, hu4, hF⟩ := bd_el hF
  refine cVI (q0 := 1) (ci := 5) (As := []) (rest := []) (wr := [oX1 h_ h_wave v_high, aI h_wave_cells k_wave_cells v_wave_cells_n v_wave_cells_a]) (ws' := [oX1 h_ h_wave v_high, oX5 h_wave h_wave_cells v_wave_head v_wave_size, aI h_wave_cells k_wave_cells v_wave_cells_n v_wave_cells_a]) (rv := bI u4) ⟨hx, hb, hml, hown, hts⟩ (mX5_isEmpty D h_wave h_wave_cells v_wave_head v_wave_size u4 hu4) (cwV 0 hts gX1_next_X5_isEmpty rfl rfl rfl (by decide +kernel) ⟨Nat.le_of_ble_eq_true rfl, Nat.le_of_ble_eq_true rfl⟩) hK hP hD hS hA [] [1] [0, 2] [0, 2, 1] rfl rfl rfl rfl rfl rfl rfl rfl rfl hl.1 rfl (Nat.le_of_ble_eq_true rfl) rfl dX1_next_4 ⟨Nat.le_refl _, Nat.le_refl _⟩ (fun H locs hP hD hS => ?_)
  refine lv_if_ne (tgt := 58) hx hb dX1_next_7 (by decide) (fun c5 => ?_) (fun c5 => ?_)
  · replace hF := bt_t (bI_n0 c5) hF
    refine lv_aload_n hx hb dX1_next_58 rfl (lv_at hl 0 rfl) ?_
    refine va_get (D := D) (ci := 1) (v := .int (bI v_high)) (C := RX1) (T := TX1) (N := 2) hx hb hts i_X1 hown hK hP 0 rfl rfl 1 (Nat.le_of_ble_eq_true rfl) f_23 (fun _ h9 => h9) rfl dX1_next_59 ?_
    exact hret (v_high, v_high, v_wave_head, v_wave_size, v_wave_cells_a) (bI v_high) _ _ 62 _ hP hD hS hF rfl dX1_next_62
  · replace hF := bt_f (bI_0 c5) hF
    refine lv_aload_n hx hb dX1_next_10 rfl (lv_at hl 0 rfl) ?_
    refine va_get (D := D) (ci := 1) (v := .ref h_wave) (C := RX1) (T := TX1) (N := 2) hx hb hts i_X1 hown hK hP 0 rfl rfl 0 (Nat.le_of_ble_eq_true rfl) f_14 (fun _ h9 => h9) rfl dX1_next_11 ?_
    obtain ⟨u6, hu6, hF⟩ := bd_el hF
    refine cVI (q0 := 1) (ci := 5) (As := []) (rest := []) (wr := [oX1 h_ h_wave v_high]) (ws' := [oX1 h_ h_wave v_high, oX5 h_wave h_wave_cells v_wave_head v_wave_size, aI h_wave_cells k_wave_cells v_wave_cells_n v_wave_cells_a]) (rv := u6) ⟨hx, hb, hml, hown, hts⟩ (mX5_first D k_wave_cells h_wave h_wave_cells v_wave_head v_wave_size v_wave_cells_n v_wave_cells_a u6 hu6) (cwV 0 hts gX1_next_X5_first rfl rfl rfl (by decide +kernel) ⟨Nat.le_of_ble_eq_true rfl, Nat.le_of_ble_eq_true rfl⟩) hK hP hD hS hA [0] [1, 2] [0] [0, 1, 2] rfl rfl rfl rfl rfl rfl rfl rfl rfl hl.1 rfl (Nat.le_of_ble_eq_true rfl) rfl dX1_next_14 ⟨Nat.le_refl _, Nat.le_refl _⟩ (fun H locs hP hD hS => ?_)
    refine lv_istore_n (lv' := [(1, .int u6), (0, .ref h_)]) hx hb dX1_next_17 rfl hl (Nat.le_of_ble_eq_true rfl) rfl (fun ls hl => ?_)
    refine lv_aload_n hx hb dX1_next_18 rfl (lv_at hl 1 rfl) ?_
    refine lv_iload_n hx hb dX1_next_19 rfl (lv_at hl 0 rfl) ?_
    refine lv_iconst (v := 1) hx hb dX1_next_20 (by decide) ?_
    refine lv_iand hx hb dX1_next_21 ?_
    refine lv_if_eq (tgt := 29) hx hb dX1_next_22 (by decide) (fun c7 => ?_) (fun c7 => ?_)
    · replace hF := it_t c7 hF
      refine lv_iconst (v := 0) hx hb dX1_next_29 (by decide) ?_
      exact J30 false u6 v_high v_wave_head v_wave_size v_wave_cells_a _ _ _ hF (lv_sub hl [1, 0] rfl) hP hD hS
    · replace hF := it_f c7 hF
      refine lv_iconst (v := 1) hx hb dX1_next_25 (by decide) ?_
      refine lv_goto (tgt := 30) hx hb dX1_next_26 (by decide) ?_
      exact J30 true u6 v_high v_wave_head v_wave_size v_wave_cells_a _ _ _ hF (lv_sub hl [1, 0] rfl) hP hD hS
def F_X2_clear  (v_inAll : Int32) (v_runs_head : Int32) (v_runs_size : Int32) : Option (Int32 × Int32 × Int32) := bd (F_X5_clear v_runs_head v_runs_size) (fun u1 => some (0, u1.1, u1.2))
def wX2_clear (h_ : Nat) (h_runs : Nat) (h_runs_cells : Nat) (u : Int32 × Int32 × Int32) : va_W := [oX2 h_ h_runs u.1, oX5 h_runs h_runs_cells u.2.1 u.2.2]
set_option maxHeartbeats 4000000 in
set_option maxRecDepth 100000 in
theorem mX2_clear {l : Launch} (D : va_G) (h_ : Nat) (h_runs : Nat) (h_runs_cells : Nat) (v_inAll : Int32) (v_runs_head : Int32) (v_runs_size : Int32) (u0 : Int32 × Int32 × Int32) (hF : F_X2_clear v_inAll v_runs_head v_runs_size = some u0) : MV l yX2_clear wsX2_clear { frames := 1, cells := 0, slots := 0, locals := 20 } D [] [.ref h_] [oX2 h_ h_runs v_inAll, oX5 h_runs h_runs_cells v_runs_head v_runs_size] (wX2_clear h_ h_runs h_runs_cells u0) := by
  refine MV.ofW (cc := cX2_clear) (maxL := 1) (ret := none) (lv := [(0, .ref h_)]) (by decide +kernel) rfl (Nat.le_of_ble_eq_true rfl) rfl ?_
  intro p e s m args below meth c A ls hx hb hr hml hts hown hlocks hA hK hP hD hS hl
  replace hown : s.vm.findClass RX2 = some m.cls := hown
  have i_X2 : ∀ w ∈ wsX20, w ∈ wsX2_clear := by decide +kernel
  have f_14 := hts (.fieldLink RX2 14 "SerialPort$LineOut" "runs" "LSerialPort$Ring;") (by decide +kernel)
  have f_23 := hts (.fieldLink RX2 23 "SerialPort$LineOut" "inAll" "I") (by decide +kernel)
  have hret : ∀ (u : Int32 × Int32 × Int32) (H : Heap) (locs : List Loc) (pc : Nat) (ls : Array Slot), va_P D vwCl (wX2_clear h_ h_runs h_runs_cells u) H → va_D A (wX2_clear h_ h_runs h_runs_cells u) → va_S A s.heap H locs → some u = some u0 → decode cX2_clear pc = .ok (.return_, 1) → W p l e { frames := 1, cells := 0, slots := 0, locals := 20 } s m args below meth c H locs 0 0 (QV below D [] (wX2_clear h_ h_runs h_runs_cells u0) args s A) (F0 m pc ls []) := fun u H locs pc ls h1 h2 h3 h4 h5 => rV (wf := wX2_clear h_ h_runs h_runs_cells) hx hb hr hlocks hK h1 h2 h3 h4 h5
  unfold F_X2_clear at hF
  refine lv_aload_n hx hb dX2_clear_0 rfl (lv_at hl 0 rfl) ?_
  refine va_get (D := D) (ci := 2) (v := .ref h_runs) (C := RX2) (T := TX2) (N := 2) hx hb hts i_X2 hown hK hP 0 rfl rfl 0 (Nat.le_of_ble_eq_true rfl) f_14 (fun _ h9 => h9) rfl dX2_clear_1 ?_
  obtain ⟨u1, hu1, hF⟩ := bd_el hF
  refine cVV (q0 := 1) (ci := 5) (As := []) (rest := []) (wr := [oX2 h_ h_runs v_inAll]) (ws' := [oX2 h_ h_runs v_inAll, oX5 h_runs h_runs_cells u1.1 u1.2]) ⟨hx, hb, hml, hown, hts⟩ (mX5_clear D h_runs h_runs_cells v_runs_head v_runs_size u1 hu1) (cwV 0 hts gX2_clear_X5_clear rfl rfl rfl (by decide +kernel) ⟨Nat.le_of_ble_eq_true rfl, Nat.le_of_ble_eq_true rfl⟩) hK hP hD hS hA [] [1] [0] [0, 1] rfl rfl rfl rfl rfl rfl rfl rfl rfl hl.1 rfl (Nat.le_of_ble_eq_true rfl) dX2_clear_4 ⟨Nat.le_refl _, Nat.le_refl _⟩ (fun H locs hP hD hS => ?_)
  refine lv_aload_n hx hb dX2_clear_7 rfl (lv_at hl 0 rfl) ?_
  refine lv_iconst (v := 0) hx hb dX2_clear_8 (by decide) ?_
  refine pf (ci := 2) (v := .int 0) (ty := .int) (C := RX2) (T := TX2) (N := 2) (ws' := [oX2 h_ h_runs 0, oX5 h_runs h_runs_cells u1.1 u1.2]) hx hb hts i_X2 tyX2_ok nmX2 hown hK hP hD hS 0 rfl rfl 1 (Nat.le_of_ble_eq_true rfl) f_23 rfl rfl (by decide +kernel) rfl rfl (Nat.le_of_ble_eq_true rfl) rfl dX2_clear_9 (fun H locs hP hD hS => ?_)
  exact hret (0, u1.1, u1.2) _ _ 12 _ hP hD hS hF dX2_clear_12
def F_X2_fromEnd (p1 : Int32) (v_runs_head : Int32) (v_runs_size : Int32) (v_runs_cells_n : Nat) (v_runs_cells_a : Nat → Int32) : Option (Int32) := bd (F_X5_size v_runs_size) (fun u1 => bd (F_X5_at ((u1 - 1) - p1) v_runs_head v_runs_size v_runs_cells_n v_runs_cells_a) (fun u2 => some u2))
def wX2_fromEnd (k_runs_cells : ClassId) (h_ : Nat) (h_runs : Nat) (h_runs_cells : Nat) (v_inAll : Int32) (v_runs_head : Int32) (v_runs_size : Int32) (v_runs_cells_n : Nat) (v_runs_cells_a : Nat → Int32) (_u : Int32) : va_W := [oX2 h_ h_runs v_inAll, oX5 h_runs h_runs_cells v_runs_head v_runs_size, aI h_runs_cells k_runs_cells v_runs_cells_n v_runs_cells_a]
set_option maxHeartbeats 4000000 in
set_option maxRecDepth 100000 in
theorem mX2_fromEnd {l : Launch} (D : va_G) (k_runs_cells : ClassId) (h_ : Nat) (h_runs : Nat) (h_runs_cells : Nat) (v_inAll : Int32) (v_runs_head : Int32) (v_runs_size : Int32) (v_runs_cells_n : Nat) (v_runs_cells_a : Nat → Int32) (p1 : Int32) (u0 : Int32) (hF : F_X2_fromEnd p1 v_runs_head v_runs_size v_runs_cells_n v_runs_cells_a = some u0) : MI l yX2_fromEnd wsX2_fromEnd { frames := 2, cells := 0, slots := 0, locals := 44 } D [(k_runs_cells, .int)] [.ref h_, .int p1] [oX2 h_ h_runs v_inAll, oX5 h_runs h_runs_cells v_runs_head v_runs_size, aI h_runs_cells k_runs_cells v_runs_cells_n v_runs_cells_a] (wX2_fromEnd k_runs_cells h_ h_runs h_runs_cells v_inAll v_runs_head v_runs_size v_runs_cells_n v_runs_cells_a u0) (u0) := by
  refine MI.ofW (cc := cX2_fromEnd) (maxL := 2) (ret := (some .int)) (lv := [(0, .ref h_), (1, .int p1)]) (by decide +kernel) rfl (Nat.le_of_ble_eq_true rfl) rfl ?_
  intro p e s m args below meth c A ls hx hb hr hml hts hown hlocks hA hK hP hD hS hl
  replace hown : s.vm.findClass RX2 = some m.cls := hown
  have i_X2 : ∀ w ∈ wsX20, w ∈ wsX2_fromEnd := by decide +kernel
  have f_14 := hts (.fieldLink RX2 14 "SerialPort$LineOut" "runs" "LSerialPort$Ring;") (by decide +kernel)
  have hret : ∀ (u : Int32) (v : Int32) (H : Heap) (locs : List Loc) (pc : Nat) (ls : Array Slot), va_P D vwCl (wX2_fromEnd k_runs_cells h_ h_runs h_runs_cells v_inAll v_runs_head v_runs_size v_runs_cells_n v_runs_cells_a u) H → va_D A (wX2_fromEnd k_runs_cells h_ h_runs h_runs_cells v_inAll v_runs_head v_runs_size v_runs_cells_n v_runs_cells_a u) → va_S A s.heap H locs → some u = some u0 → v = u → decode cX2_fromEnd pc = .ok (.ireturn, 1) → W p l e { frames := 2, cells := 0, slots := 0, locals := 44 } s m args below meth c H locs 0 0 (QI below D [(k_runs_cells, .int)] (wX2_fromEnd k_runs_cells h_ h_runs h_runs_cells v_inAll v_runs_head v_runs_size v_runs_cells_n v_runs_cells_a u0) (u0) args s A) (F0 m pc ls [.int v]) := fun u v H locs pc ls h1 h2 h3 h4 h5 h6 => rI (wf := wX2_fromEnd k_runs_cells h_ h_runs h_runs_cells v_inAll v_runs_head v_runs_size v_runs_cells_n v_runs_cells_a) (rf := fun u => u) hx hb hr hlocks hK h1 h2 h3 h4 h5 h6
  unfold F_X2_fromEnd at hF
  refine lv_aload_n hx hb dX2_fromEnd_0 rfl (lv_at hl 0 rfl) ?_
  refine va_get (D := D) (ci := 2) (v := .ref h_runs) (C := RX2) (T := TX2) (N := 2) hx hb hts i_X2 hown hK hP 0 rfl rfl 0 (Nat.le_of_ble_eq_true rfl) f_14 (fun _ h9 => h9) rfl dX2_fromEnd_1 ?_
  refine lv_aload_n hx hb dX2_fromEnd_4 rfl (lv_at hl 0 rfl) ?_
  refine va_get (D := D) (ci := 2) (v := .ref h_runs) (C := RX2) (T := TX2) (N := 2) hx hb hts i_X2 hown hK hP 0 rfl rfl 0 (Nat.le_of_ble_eq_true rfl) f_14 (fun _ h9 => h9) rfl dX2_fromEnd_5 ?_
  obtain ⟨u1, hu1, hF⟩ := bd_el hF
  refine cVI (q0 := 1) (ci := 5) (As := []) (rest := [.ref h_runs]) (wr := [oX2 h_ h_runs v_inAll, aI h_runs_cells k_runs_cells v_runs_cells_n v_runs_cells_a]) (ws' := [oX2 h_ h_runs v_inAll, oX5 h_runs h_runs_cells v_runs_head v_runs_size, aI h_runs_cells k_runs_cells v_runs_cells_n v_runs_cells_a]) (rv := u1) ⟨hx, hb, hml, hown, hts⟩ (mX5_size D h_runs h_runs_cells v_runs_head v_runs_size u1 hu1) (cwV 0 hts gX2_fromEnd_X5_size rfl rfl rfl (by decide +kernel) ⟨Nat.le_of_ble_eq_true rfl, Nat.le_of_ble_eq_true rfl⟩) hK hP hD hS hA [] [1] [0, 2] [0, 2, 1] rfl rfl rfl rfl rfl rfl rfl rfl rfl hl.1 rfl (Nat.le_of_ble_eq_true rfl) rfl dX2_fromEnd_8 ⟨Nat.le_refl _, Nat.le_refl _⟩ (fun H locs hP hD hS => ?_)
  refine lv_iconst (v := 1) hx hb dX2_fromEnd_11 (by decide) ?_
  refine lv_isub hx hb dX2_fromEnd_12 ?_
  refine lv_iload_n hx hb dX2_fromEnd_13 rfl (lv_at hl 1 rfl) ?_
  refine lv_isub hx hb dX2_fromEnd_14 ?_
  obtain ⟨u2, hu2, hF⟩ := bd_el hF
  refine cVI (q0 := 1) (ci := 5) (As := [.int ((u1 - 1) - p1)]) (rest := []) (wr := [oX2 h_ h_runs v_inAll]) (ws' := [oX2 h_ h_runs v_inAll, oX5 h_runs h_runs_cells v_runs_head v_runs_size, aI h_runs_cells k_runs_cells v_runs_cells_n v_runs_cells_a]) (rv := u2) ⟨hx, hb, hml, hown, hts⟩ (mX5_at D k_runs_cells h_runs h_runs_cells v_runs_head v_runs_size v_runs_cells_n v_runs_cells_a ((u1 - 1) - p1) u2 hu2) (cwV 1 hts gX2_fromEnd_X5_at rfl rfl rfl (by decide +kernel) ⟨Nat.le_of_ble_eq_true rfl, Nat.le_of_ble_eq_true rfl⟩) hK hP hD hS hA [0] [1, 2] [0] [0, 1, 2] rfl rfl rfl rfl rfl rfl rfl rfl rfl hl.1 rfl (Nat.le_of_ble_eq_true rfl) rfl dX2_fromEnd_15 ⟨Nat.le_refl _, Nat.le_refl _⟩ (fun H locs hP hD hS => ?_)
  exact hret u2 u2 _ _ 18 _ hP hD hS hF rfl dX2_fromEnd_18
def F_X2_runIsHigh (p1 : Int32) (v_runs_head : Int32) (v_runs_size : Int32) (v_runs_cells_n : Nat) (v_runs_cells_a : Nat → Int32) : Option (Bool) := bd (F_X2_fromEnd p1 v_runs_head v_runs_size v_runs_cells_n v_runs_cells_a) (fun u1 => if (u1 &&& 1) = 0 then (some false) else (some true))
def wX2_runIsHigh (k_runs_cells : ClassId) (h_ : Nat) (h_runs : Nat) (h_runs_cells : Nat) (v_inAll : Int32) (v_runs_head : Int32) (v_runs_size : Int32) (v_runs_cells_n : Nat) (v_runs_cells_a : Nat → Int32) (_u : Bool) : va_W := [oX2 h_ h_runs v_inAll, oX5 h_runs h_runs_cells v_runs_head v_runs_size, aI h_runs_cells k_runs_cells v_runs_cells_n v_runs_cells_a]
set_option maxHeartbeats 4000000 in
set_option maxRecDepth 100000 in
theorem mX2_runIsHigh {l : Launch} (D : va_G) (k_runs_cells : ClassId) (h_ : Nat) (h_runs : Nat) (h_runs_cells : Nat) (v_inAll : Int32) (v_runs_head : Int32) (v_runs_size : Int32) (v_runs_cells_n : Nat) (v_runs_cells_a : Nat → Int32) (p1 : Int32) (u0 : Bool) (hF : F_X2_runIsHigh p1 v_runs_head v_runs_size v_runs_cells_n v_runs_cells_a = some u0) : MI l yX2_runIsHigh wsX2_runIsHigh { frames := 3, cells := 0, slots := 0, locals := 65 } D [(k_runs_cells, .int)] [.ref h_, .int p1] [oX2 h_ h_runs v_inAll, oX5 h_runs h_runs_cells v_runs_head v_runs_size, aI h_runs_cells k_runs_cells v_runs_cells_n v_runs_cells_a] (wX2_runIsHigh k_runs_cells h_ h_runs h_runs_cells v_inAll v_runs_head v_runs_size v_runs_cells_n v_runs_cells_a u0) (bI u0) := by
  refine MI.ofW (cc := cX2_runIsHigh) (maxL := 2) (ret := (some .boolean)) (lv := [(0, .ref h_), (1, .int p1)]) (by decide +kernel) rfl (Nat.le_of_ble_eq_true rfl) rfl ?_
  intro p e s m args below meth c A ls hx hb hr hml hts hown hlocks hA hK hP hD hS hl
  replace hown : s.vm.findClass RX2 = some m.cls := hown
  have hret : ∀ (u : Bool) (v : Int32) (H : Heap) (locs : List Loc) (pc : Nat) (ls : Array Slot), va_P D vwCl (wX2_runIsHigh k_runs_cells h_ h_runs h_runs_cells v_inAll v_runs_head v_runs_size v_runs_cells_n v_runs_cells_a u) H → va_D A (wX2_runIsHigh k_runs_cells h_ h_runs h_runs_cells v_inAll v_runs_head v_runs_size v_runs_cells_n v_runs_cells_a u) → va_S A s.heap H locs → some u = some u0 → v = bI u → decode cX2_runIsHigh pc = .ok (.ireturn, 1) → W p l e { frames := 3, cells := 0, slots := 0, locals := 65 } s m args below meth c H locs 0 0 (QI below D [(k_runs_cells, .int)] (wX2_runIsHigh k_runs_cells h_ h_runs h_runs_cells v_inAll v_runs_head v_runs_size v_runs_cells_n v_runs_cells_a u0) (bI u0) args s A) (F0 m pc ls [.int v]) := fun u v H locs pc ls h1 h2 h3 h4 h5 h6 => rZ (wf := wX2_runIsHigh k_runs_cells h_ h_runs h_runs_cells v_inAll v_runs_head v_runs_size v_runs_cells_n v_runs_cells_a) (rf := fun u => u) hx hb hr hlocks hK h1 h2 h3 h4 h5 h6
  unfold F_X2_runIsHigh at hF
  refine lv_aload_n hx hb dX2_runIsHigh_0 rfl (lv_at hl 0 rfl) ?_
  refine lv_iload_n hx hb dX2_runIsHigh_1 rfl (lv_at hl 1 rfl) ?_
  obtain ⟨u1, hu1, hF⟩ := bd_el hF
  refine cVI (q0 := 0) (ci := 2) (As := [.int p1]) (rest := []) (wr := []) (ws' := [oX2 h_ h_runs v_inAll, oX5 h_runs h_runs_cells v_runs_head v_runs_size, aI h_runs_cells k_runs_cells v_runs_cells_n v_runs_cells_a]) (rv := u1) ⟨hx, hb, hml, hown, hts⟩ (mX2_fromEnd D k_runs_cells h_ h_runs h_runs_cells v_inAll v_runs_head v_runs_size v_runs_cells_n v_runs_cells_a p1 u1 hu1) (cwV 1 hts gX2_runIsHigh_X2_fromEnd rfl rfl rfl (by decide +kernel) ⟨Nat.le_of_ble_eq_true rfl, Nat.le_of_ble_eq_true rfl⟩) hK hP hD hS hA [0] [0, 1, 2] [] [0, 1, 2] rfl rfl rfl rfl rfl rfl rfl rfl rfl hl.1 rfl (Nat.le_of_ble_eq_true rfl) rfl dX2_runIsHigh_2 ⟨Nat.le_refl _, Nat.le_refl _⟩ (fun H locs hP hD hS => ?_)
  refine lv_iconst (v := 1) hx hb dX2_runIsHigh_5 (by decide) ?_
  refine lv_iand hx hb dX2_runIsHigh_6 ?_
  refine lv_if_eq (tgt := 14) hx hb dX2_runIsHigh_7 (by decide) (fun c2 => ?_) (fun c2 => ?_)
  · replace hF := it_t c2 hF
    refine lv_iconst (v := 0) hx hb dX2_runIsHigh_14 (by decide) ?_
    exact hret false 0 _ _ 15 _ hP hD hS hF rfl dX2_runIsHigh_15
  · replace hF := it_f c2 hF
    refine lv_iconst (v := 1) hx hb dX2_runIsHigh_10 (by decide) ?_
    refine lv_goto (tgt := 15) hx hb dX2_runIsHigh_11 (by decide) ?_
    exact hret true 1 _ _ 15 _ hP hD hS hF rfl dX2_runIsHigh_15
def F_X2_isHigh  (v_runs_head : Int32) (v_runs_size : Int32) (v_runs_cells_n : Nat) (v_runs_cells_a : Nat → Int32) : Option (Bool) := bd (F_X5_isEmpty v_runs_size) (fun u1 => bt u1 (some true) (bd (F_X2_runIsHigh 0 v_runs_head v_runs_size v_runs_cells_n v_runs_cells_a) (fun u3 => bt u3 (some true) (some false))))
def wX2_isHigh (k_runs_cells : ClassId) (h_ : Nat) (h_runs : Nat) (h_runs_cells : Nat) (v_inAll : Int32) (v_runs_head : Int32) (v_runs_size : Int32) (v_runs_cells_n : Nat) (v_runs_cells_a : Nat → Int32) (_u : Bool) : va_W := [oX2 h_ h_runs v_inAll, oX5 h_runs h_runs_cells v_runs_head v_runs_size, aI h_runs_cells k_runs_cells v_runs_cells_n v_runs_cells_a]
set_option maxHeartbeats 4000000 in
set_option maxRecDepth 100000 in
theorem mX2_isHigh {l : Launch} (D : va_G) (k_runs_cells : ClassId) (h_ : Nat) (h_runs : Nat) (h_runs_cells : Nat) (v_inAll : Int32) (v_runs_head : Int32) (v_runs_size : Int32) (v_runs_cells_n : Nat) (v_runs_cells_a : Nat → Int32) (u0 : Bool) (hF : F_X2_isHigh v_runs_head v_runs_size v_runs_cells_n v_runs_cells_a = some u0) : MI l yX2_isHigh wsX2_isHigh { frames := 4, cells := 0, slots := 0, locals := 86 } D [(k_runs_cells, .int)] [.ref h_] [oX2 h_ h_runs v_inAll, oX5 h_runs h_runs_cells v_runs_head v_runs_size, aI h_runs_cells k_runs_cells v_runs_cells_n v_runs_cells_a] (wX2_isHigh k_runs_cells h_ h_runs h_runs_cells v_inAll v_runs_head v_runs_size v_runs_cells_n v_runs_cells_a u0) (bI u0) := by
  refine MI.ofW (cc := cX2_isHigh) (maxL := 1) (ret := (some .boolean)) (lv := [(0, .ref h_)]) (by decide +kernel) rfl (Nat.le_of_ble_eq_true rfl) rfl ?_
  intro p e s m args below meth c A ls hx hb hr hml hts hown hlocks hA hK hP hD hS hl
  replace hown : s.vm.findClass RX2 = some m.cls := hown
  have i_X2 : ∀ w ∈ wsX20, w ∈ wsX2_isHigh := by decide +kernel
  have f_14 := hts (.fieldLink RX2 14 "SerialPort$LineOut" "runs" "LSerialPort$Ring;") (by decide +kernel)
  have hret : ∀ (u : Bool) (v : Int32) (H : Heap) (locs : List Loc) (pc : Nat) (ls : Array Slot), va_P D vwCl (wX2_isHigh k_runs_cells h_ h_runs h_runs_cells v_inAll v_runs_head v_runs_size v_runs_cells_n v_runs_cells_a u) H → va_D A (wX2_isHigh k_runs_cells h_ h_runs h_runs_cells v_inAll v_runs_head v_runs_size v_runs_cells_n v_runs_cells_a u) → va_S A s.heap H locs → some u = some u0 → v = bI u → decode cX2_isHigh pc = .ok (.ireturn, 1) → W p l e { frames := 4, cells := 0, slots := 0, locals := 86 } s m args below meth c H locs 0 0 (QI below D [(k_runs_cells, .int)] (wX2_isHigh k_runs_cells h_ h_runs h_runs_cells v_inAll v_runs_head v_runs_size v_runs_cells_n v_runs_cells_a u0) (bI u0) args s A) (F0 m pc ls [.int v]) := fun u v H locs pc ls h1 h2 h3 h4 h5 h6 => rZ (wf := wX2_isHigh k_runs_cells h_ h_runs h_runs_cells v_inAll v_runs_head v_runs_size v_runs_cells_n v_runs_cells_a) (rf := fun u => u) hx hb hr hlocks hK h1 h2 h3 h4 h5 h6
  unfold F_X2_isHigh at hF
  refine lv_aload_n hx hb dX2_isHigh_0 rfl (lv_at hl 0 rfl) ?_
  refine va_get (D := D) (ci := 2) (v := .ref h_runs) (C := RX2) (T := TX2) (N := 2) hx hb hts i_X2 hown hK hP 0 rfl rfl 0 (Nat.le_of_ble_eq_true rfl) f_14 (fun _ h9 => h9) rfl dX2_isHigh_1 ?_
  obtain ⟨u1, hu1, hF⟩ := bd_el hF
  refine cVI (q0 := 1) (ci := 5) (As := []) (rest := []) (wr := [oX2 h_ h_runs v_inAll, aI h_runs_cells k_runs_cells v_runs_cells_n v_runs_cells_a]) (ws' := [oX2 h_ h_runs v_inAll, oX5 h_runs h_runs_cells v_runs_head v_runs_size, aI h_runs_cells k_runs_cells v_runs_cells_n v_runs_cells_a]) (rv := bI u1) ⟨hx, hb, hml, hown, hts⟩ (mX5_isEmpty D h_runs h_runs_cells v_runs_head v_runs_size u1 hu1) (cwV 0 hts gX2_isHigh_X5_isEmpty rfl rfl rfl (by decide +kernel) ⟨Nat.le_of_ble_eq_true rfl, Nat.le_of_ble_eq_true rfl⟩) hK hP hD hS hA [] [1] [0, 2] [0, 2, 1] rfl rfl rfl rfl rfl rfl rfl rfl rfl hl.1 rfl (Nat.le_of_ble_eq_true rfl) rfl dX2_isHigh_4 ⟨Nat.le_refl _, Nat.le_refl _⟩ (fun H locs hP hD hS => ?_)
  refine lv_if_ne (tgt := 18) hx hb dX2_isHigh_7 (by decide) (fun c2 => ?_) (fun c2 => ?_)
  · replace hF := bt_t (bI_n0 c2) hF
    refine lv_iconst (v := 1) hx hb dX2_isHigh_18 (by decide) ?_
    refine lv_goto (tgt := 23) hx hb dX2_isHigh_19 (by decide) ?_
    exact hret true 1 _ _ 23 _ hP hD hS hF rfl dX2_isHigh_23
  · replace hF := bt_f (bI_0 c2) hF
    refine lv_aload_n hx hb dX2_isHigh_10 rfl (lv_at hl 0 rfl) ?_
    refine lv_iconst (v := 0) hx hb dX2_isHigh_11 (by decide) ?_
    obtain ⟨u3, hu3, hF⟩ := bd_el hF
    refine cVI (q0 := 0) (ci := 2) (As := [.int 0]) (rest := []) (wr := []) (ws' := [oX2 h_ h_runs v_inAll, oX5 h_runs h_runs_cells v_runs_head v_runs_size, aI h_runs_cells k_runs_cells v_runs_cells_n v_runs_cells_a]) (rv := bI u3) ⟨hx, hb, hml, hown, hts⟩ (mX2_runIsHigh D k_runs_cells h_ h_runs h_runs_cells v_inAll v_runs_head v_runs_size v_runs_cells_n v_runs_cells_a 0 u3 hu3) (cwV 1 hts gX2_isHigh_X2_runIsHigh rfl rfl rfl (by decide +kernel) ⟨Nat.le_of_ble_eq_true rfl, Nat.le_of_ble_eq_true rfl⟩) hK hP hD hS hA [0] [0, 1, 2] [] [0, 1, 2] rfl rfl rfl rfl rfl rfl rfl rfl rfl hl.1 rfl (Nat.le_of_ble_eq_true rfl) rfl dX2_isHigh_12 ⟨Nat.le_refl _, Nat.le_refl _⟩ (fun H locs hP hD hS => ?_)
    refine lv_if_eq (tgt := 22) hx hb dX2_isHigh_15 (by decide) (fun c4 => ?_) (fun c4 => ?_)
    · replace hF := bt_f (bI_0 c4) hF
      refine lv_iconst (v := 0) hx hb dX2_isHigh_22 (by decide) ?_
      exact hret false 0 _ _ 23 _ hP hD hS hF rfl dX2_isHigh_23
    · replace hF := bt_t (bI_n0 c4) hF
      refine lv_iconst (v := 1) hx hb dX2_isHigh_18 (by decide) ?_
      refine lv_goto (tgt := 23) hx hb dX2_isHigh_19 (by decide) ?_
      exact hret true 1 _ _ 23 _ hP hD hS hF rfl dX2_isHigh_23
def F_X2_runsInAll  (v_inAll : Int32) : Option (Int32) := some v_inAll
def wX2_runsInAll (h_ : Nat) (h_runs : Nat) (v_inAll : Int32) (_u : Int32) : va_W := [oX2 h_ h_runs v_inAll]
set_option maxHeartbeats 4000000 in
set_option maxRecDepth 100000 in
theorem mX2_runsInAll {l : Launch} (D : va_G) (h_ : Nat) (h_runs : Nat) (v_inAll : Int32) (u0 : Int32) (hF : F_X2_runsInAll v_inAll = some u0) : MI l yX2_runsInAll wsX2_runsInAll { frames := 0, cells := 0, slots := 0, locals := 0 } D [] [.ref h_] [oX2 h_ h_runs v_inAll] (wX2_runsInAll h_ h_runs v_inAll u0) (u0) := by
  refine MI.ofW (cc := cX2_runsInAll) (maxL := 1) (ret := (some .int)) (lv := [(0, .ref h_)]) (by decide +kernel) rfl (Nat.le_of_ble_eq_true rfl) rfl ?_
  intro p e s m args below meth c A ls hx hb hr hml hts hown hlocks hA hK hP hD hS hl
  replace hown : s.vm.findClass RX2 = some m.cls := hown
  have i_X2 : ∀ w ∈ wsX20, w ∈ wsX2_runsInAll := by decide +kernel
  have f_23 := hts (.fieldLink RX2 23 "SerialPort$LineOut" "inAll" "I") (by decide +kernel)
  have hret : ∀ (u : Int32) (v : Int32) (H : Heap) (locs : List Loc) (pc : Nat) (ls : Array Slot), va_P D vwCl (wX2_runsInAll h_ h_runs v_inAll u) H → va_D A (wX2_runsInAll h_ h_runs v_inAll u) → va_S A s.heap H locs → some u = some u0 → v = u → decode cX2_runsInAll pc = .ok (.ireturn, 1) → W p l e { frames := 0, cells := 0, slots := 0, locals := 0 } s m args below meth c H locs 0 0 (QI below D [] (wX2_runsInAll h_ h_runs v_inAll u0) (u0) args s A) (F0 m pc ls [.int v]) := fun u v H locs pc ls h1 h2 h3 h4 h5 h6 => rI (wf := wX2_runsInAll h_ h_runs v_inAll) (rf := fun u => u) hx hb hr hlocks hK h1 h2 h3 h4 h5 h6
  unfold F_X2_runsInAll at hF
  refine lv_aload_n hx hb dX2_runsInAll_0 rfl (lv_at hl 0 rfl) ?_
  refine va_get (D := D) (ci := 2) (v := .int v_inAll) (C := RX2) (T := TX2) (N := 2) hx hb hts i_X2 hown hK hP 0 rfl rfl 1 (Nat.le_of_ble_eq_true rfl) f_23 (fun _ h9 => h9) rfl dX2_runsInAll_1 ?_
  exact hret v_inAll v_inAll _ _ 4 _ hP hD hS hF rfl dX2_runsInAll_4
def F_X2_runsKept  (v_runs_size : Int32) : Option (Int32) := bd (F_X5_size v_runs_size) (fun u1 => some u1)
def wX2_runsKept (h_ : Nat) (h_runs : Nat) (h_runs_cells : Nat) (v_inAll : Int32) (v_runs_head : Int32) (v_runs_size : Int32) (_u : Int32) : va_W := [oX2 h_ h_runs v_inAll, oX5 h_runs h_runs_cells v_runs_head v_runs_size]
set_option maxHeartbeats 4000000 in
set_option maxRecDepth 100000 in
theorem mX2_runsKept {l : Launch} (D : va_G) (h_ : Nat) (h_runs : Nat) (h_runs_cells : Nat) (v_inAll : Int32) (v_runs_head : Int32) (v_runs_size : Int32) (u0 : Int32) (hF : F_X2_runsKept v_runs_size = some u0) : MI l yX2_runsKept wsX2_runsKept { frames := 1, cells := 0, slots := 0, locals := 20 } D [] [.ref h_] [oX2 h_ h_runs v_inAll, oX5 h_runs h_runs_cells v_runs_head v_runs_size] (wX2_runsKept h_ h_runs h_runs_cells v_inAll v_runs_head v_runs_size u0) (u0) := by
  refine MI.ofW (cc := cX2_runsKept) (maxL := 1) (ret := (some .int)) (lv := [(0, .ref h_)]) (by decide +kernel) rfl (Nat.le_of_ble_eq_true rfl) rfl ?_
  intro p e s m args below meth c A ls hx hb hr hml hts hown hlocks hA hK hP hD hS hl
  replace hown : s.vm.findClass RX2 = some m.cls := hown
  have i_X2 : ∀ w ∈ wsX20, w ∈ wsX2_runsKept := by decide +kernel
  have f_14 := hts (.fieldLink RX2 14 "SerialPort$LineOut" "runs" "LSerialPort$Ring;") (by decide +kernel)
  have hret : ∀ (u : Int32) (v : Int32) (H : Heap) (locs : List Loc) (pc : Nat) (ls : Array Slot), va_P D vwCl (wX2_runsKept h_ h_runs h_runs_cells v_inAll v_runs_head v_runs_size u) H → va_D A (wX2_runsKept h_ h_runs h_runs_cells v_inAll v_runs_head v_runs_size u) → va_S A s.heap H locs → some u = some u0 → v = u → decode cX2_runsKept pc = .ok (.ireturn, 1) → W p l e { frames := 1, cells := 0, slots := 0, locals := 20 } s m args below meth c H locs 0 0 (QI below D [] (wX2_runsKept h_ h_runs h_runs_cells v_inAll v_runs_head v_runs_size u0) (u0) args s A) (F0 m pc ls [.int v]) := fun u v H locs pc ls h1 h2 h3 h4 h5 h6 => rI (wf := wX2_runsKept h_ h_runs h_runs_cells v_inAll v_runs_head v_runs_size) (rf := fun u => u) hx hb hr hlocks hK h1 h2 h3 h4 h5 h6
  unfold F_X2_runsKept at hF
  refine lv_aload_n hx hb dX2_runsKept_0 rfl (lv_at hl 0 rfl) ?_
  refine va_get (D := D) (ci := 2) (v := .ref h_runs) (C := RX2) (T := TX2) (N := 2) hx hb hts i_X2 hown hK hP 0 rfl rfl 0 (Nat.le_of_ble_eq_true rfl) f_14 (fun _ h9 => h9) rfl dX2_runsKept_1 ?_
  obtain ⟨u1, hu1, hF⟩ := bd_el hF
  refine cVI (q0 := 1) (ci := 5) (As := []) (rest := []) (wr := [oX2 h_ h_runs v_inAll]) (ws' := [oX2 h_ h_runs v_inAll, oX5 h_runs h_runs_cells v_runs_head v_runs_size]) (rv := u1) ⟨hx, hb, hml, hown, hts⟩ (mX5_size D h_runs h_runs_cells v_runs_head v_runs_size u1 hu1) (cwV 0 hts gX2_runsKept_X5_size rfl rfl rfl (by decide +kernel) ⟨Nat.le_of_ble_eq_true rfl, Nat.le_of_ble_eq_true rfl⟩) hK hP hD hS hA [] [1] [0] [0, 1] rfl rfl rfl rfl rfl rfl rfl rfl rfl hl.1 rfl (Nat.le_of_ble_eq_true rfl) rfl dX2_runsKept_4 ⟨Nat.le_refl _, Nat.le_refl _⟩ (fun H locs hP hD hS => ?_)
  exact hret u1 u1 _ _ 7 _ hP hD hS hF rfl dX2_runsKept_7
def F_X2_runBeats (p1 : Int32) (v_runs_head : Int32) (v_runs_size : Int32) (v_runs_cells_n : Nat) (v_runs_cells_a : Nat → Int32) : Option (Int32) := bd (F_X2_fromEnd p1 v_runs_head v_runs_size v_runs_cells_n v_runs_cells_a) (fun u1 => some (u1 >>> ((1 : Int32) &&& 31)))
def wX2_runBeats (k_runs_cells : ClassId) (h_ : Nat) (h_runs : Nat) (h_runs_cells : Nat) (v_inAll : Int32) (v_runs_head : Int32) (v_runs_size : Int32) (v_runs_cells_n : Nat) (v_runs_cells_a : Nat → Int32) (_u : Int32) : va_W := [oX2 h_ h_runs v_inAll, oX5 h_runs h_runs_cells v_runs_head v_runs_size, aI h_runs_cells k_runs_cells v_runs_cells_n v_runs_cells_a]
set_option maxHeartbeats 4000000 in
set_option maxRecDepth 100000 in
theorem mX2_runBeats {l : Launch} (D : va_G) (k_runs_cells : ClassId) (h_ : Nat) (h_runs : Nat) (h_runs_cells : Nat) (v_inAll : Int32) (v_runs_head : Int32) (v_runs_size : Int32) (v_runs_cells_n : Nat) (v_runs_cells_a : Nat → Int32) (p1 : Int32) (u0 : Int32) (hF : F_X2_runBeats p1 v_runs_head v_runs_size v_runs_cells_n v_runs_cells_a = some u0) : MI l yX2_runBeats wsX2_runBeats { frames := 3, cells := 0, slots := 0, locals := 65 } D [(k_runs_cells, .int)] [.ref h_, .int p1] [oX2 h_ h_runs v_inAll, oX5 h_runs h_runs_cells v_runs_head v_runs_size, aI h_runs_cells k_runs_cells v_runs_cells_n v_runs_cells_a] (wX2_runBeats k_runs_cells h_ h_runs h_runs_cells v_inAll v_runs_head v_runs_size v_runs_cells_n v_runs_cells_a u0) (u0) := by
  refine MI.ofW (cc := cX2_runBeats) (maxL := 2) (ret := (some .int)) (lv := [(0, .ref h_), (1, .int p1)]) (by decide +kernel) rfl (Nat.le_of_ble_eq_true rfl) rfl ?_
  intro p e s m args below meth c A ls hx hb hr hml hts hown hlocks hA hK hP hD hS hl
  replace hown : s.vm.findClass RX2 = some m.cls := hown
  have hret : ∀ (u : Int32) (v : Int32) (H : Heap) (locs : List Loc) (pc : Nat) (ls : Array Slot), va_P D vwCl (wX2_runBeats k_runs_cells h_ h_runs h_runs_cells v_inAll v_runs_head v_runs_size v_runs_cells_n v_runs_cells_a u) H → va_D A (wX2_runBeats k_runs_cells h_ h_runs h_runs_cells v_inAll v_runs_head v_runs_size v_runs_cells_n v_runs_cells_a u) → va_S A s.heap H locs → some u = some u0 → v = u → decode cX2_runBeats pc = .ok (.ireturn, 1) → W p l e { frames := 3, cells := 0, slots := 0, locals := 65 } s m args below meth c H locs 0 0 (QI below D [(k_runs_cells, .int)] (wX2_runBeats k_runs_cells h_ h_runs h_runs_cells v_inAll v_runs_head v_runs_size v_runs_cells_n v_runs_cells_a u0) (u0) args s A) (F0 m pc ls [.int v]) := fun u v H locs pc ls h1 h2 h3 h4 h5 h6 => rI (wf := wX2_runBeats k_runs_cells h_ h_runs h_runs_cells v_inAll v_runs_head v_runs_size v_runs_cells_n v_runs_cells_a) (rf := fun u => u) hx hb hr hlocks hK h1 h2 h3 h4 h5 h6
  unfold F_X2_runBeats at hF
  refine lv_aload_n hx hb dX2_runBeats_0 rfl (lv_at hl 0 rfl) ?_
  refine lv_iload_n hx hb dX2_runBeats_1 rfl (lv_at hl 1 rfl) ?_
  obtain ⟨u1, hu1, hF⟩ := bd_el hF
  refine cVI (q0 := 0) (ci := 2) (As := [.int p1]) (rest := []) (wr := []) (ws' := [oX2 h_ h_runs v_inAll, oX5 h_runs h_runs_cells v_runs_head v_runs_size, aI h_runs_cells k_runs_cells v_runs_cells_n v_runs_cells_a]) (rv := u1) ⟨hx, hb, hml, hown, hts⟩ (mX2_fromEnd D k_runs_cells h_ h_runs h_runs_cells v_inAll v_runs_head v_runs_size v_runs_cells_n v_runs_cells_a p1 u1 hu1) (cwV 1 hts gX2_runBeats_X2_fromEnd rfl rfl rfl (by decide +kernel) ⟨Nat.le_of_ble_eq_true rfl, Nat.le_of_ble_eq_true rfl⟩) hK hP hD hS hA [0] [0, 1, 2] [] [0, 1, 2] rfl rfl rfl rfl rfl rfl rfl rfl rfl hl.1 rfl (Nat.le_of_ble_eq_true rfl) rfl dX2_runBeats_2 ⟨Nat.le_refl _, Nat.le_refl _⟩ (fun H locs hP hD hS => ?_)
  refine lv_iconst (v := 1) hx hb dX2_runBeats_5 (by decide) ?_
  refine lv_ishr hx hb dX2_runBeats_6 ?_
  exact hret (u1 >>> ((1 : Int32) &&& 31)) (u1 >>> ((1 : Int32) &&& 31)) _ _ 7 _ hP hD hS hF rfl dX2_runBeats_7
def F_X2_append_73 (v_runs_cells_n : Nat) (s1 : Int32) (v_inAll : Int32) (v_runs_head : Int32) (v_runs_size : Int32) (v_runs_cells_a : Nat → Int32) : Option (Int32 × Int32 × Int32 × (Nat → Int32)) := bd (F_X5_add s1 v_runs_head v_runs_size v_runs_cells_n v_runs_cells_a) (fun u1 => lt1 (v_inAll + 1) (fun x2 => some (x2, v_runs_head, u1.1, u1.2)))
def F_X2_append_60 (v_runs_cells_n : Nat) (l1 : Bool) (v_inAll : Int32) (v_runs_head : Int32) (v_runs_size : Int32) (v_runs_cells_a : Nat → Int32) : Option (Int32 × Int32 × Int32 × (Nat → Int32)) := bt l1 (F_X2_append_73 v_runs_cells_n 3 v_inAll v_runs_head v_runs_size v_runs_cells_a) (F_X2_append_73 v_runs_cells_n 2 v_inAll v_runs_head v_runs_size v_runs_cells_a)
def F_X2_append_43 (v_runs_cells_n : Nat) (l1 : Bool) (v_inAll : Int32) (v_runs_head : Int32) (v_runs_size : Int32) (v_runs_cells_a : Nat → Int32) : Option (Int32 × Int32 × Int32 × (Nat → Int32)) := bd (F_X5_room v_runs_size v_runs_cells_n) (fun u4 => if u4 = 0 then (bd (F_X5_dropFirst v_runs_head v_runs_size v_runs_cells_n) (fun u6 => F_X2_append_60 v_runs_cells_n l1 v_inAll u6.1 u6.2 v_runs_cells_a)) else (F_X2_append_60 v_runs_cells_n l1 v_inAll v_runs_head v_runs_size v_runs_cells_a))
def F_X2_append (p1 : Bool) (v_inAll : Int32) (v_runs_head : Int32) (v_runs_size : Int32) (v_runs_cells_n : Nat) (v_runs_cells_a : Nat → Int32) : Option (Int32 × Int32 × Int32 × (Nat → Int32)) := bd (F_X5_isEmpty v_runs_size) (fun u7 => bt u7 (F_X2_append_43 v_runs_cells_n p1 v_inAll v_runs_head v_runs_size v_runs_cells_a) (bd (F_X2_runIsHigh 0 v_runs_head v_runs_size v_runs_cells_n v_runs_cells_a) (fun u9 => if (bI u9) = (bI p1) then (bd (F_X5_size v_runs_size) (fun u11 => bd (F_X2_fromEnd 0 v_runs_head v_runs_size v_runs_cells_n v_runs_cells_a) (fun u12 => bd (F_X5_setAt (u11 - 1) (u12 + 2) v_runs_head v_runs_size v_runs_cells_n v_runs_cells_a) (fun u13 => some (v_inAll, v_runs_head, v_runs_size, u13))))) else (F_X2_append_43 v_runs_cells_n p1 v_inAll v_runs_head v_runs_size v_runs_cells_a))))
def wX2_append (k_runs_cells : ClassId) (h_ : Nat) (h_runs : Nat) (h_runs_cells : Nat) (v_runs_cells_n : Nat) (u : Int32 × Int32 × Int32 × (Nat → Int32)) : va_W := [oX2 h_ h_runs u.1, oX5 h_runs h_runs_cells u.2.1 u.2.2.1, aI h_runs_cells k_runs_cells v_runs_cells_n u.2.2.2]
set_option maxHeartbeats 4000000 in
set_option maxRecDepth 100000 in
theorem mX2_append {l : Launch} (D : va_G) (k_runs_cells : ClassId) (h_ : Nat) (h_runs : Nat) (h_runs_cells : Nat) (v_inAll : Int32) (v_runs_head : Int32) (v_runs_size : Int32) (v_runs_cells_n : Nat) (v_runs_cells_a : Nat → Int32) (p1 : Bool) (u0 : Int32 × Int32 × Int32 × (Nat → Int32)) (hF : F_X2_append p1 v_inAll v_runs_head v_runs_size v_runs_cells_n v_runs_cells_a = some u0) : MV l yX2_append wsX2_append { frames := 4, cells := 0, slots := 0, locals := 86 } D [(k_runs_cells, .int)] [.ref h_, .int (bI p1)] [oX2 h_ h_runs v_inAll, oX5 h_runs h_runs_cells v_runs_head v_runs_size, aI h_runs_cells k_runs_cells v_runs_cells_n v_runs_cells_a] (wX2_append k_runs_cells h_ h_runs h_runs_cells v_runs_cells_n u0) := by
  refine MV.ofW (cc := cX2_append) (maxL := 2) (ret := none) (lv := [(0, .ref h_), (1, .int (bI p1))]) (by decide +kernel) rfl (Nat.le_of_ble_eq_true rfl) rfl ?_
  intro p e s m args below meth c A ls hx hb hr hml hts hown hlocks hA hK hP hD hS hl
  replace hown : s.vm.findClass RX2 = some m.cls := hown
  have i_X2 : ∀ w ∈ wsX20, w ∈ wsX2_append := by decide +kernel
  have f_14 := hts (.fieldLink RX2 14 "SerialPort$LineOut" "runs" "LSerialPort$Ring;") (by decide +kernel)
  have f_23 := hts (.fieldLink RX2 23 "SerialPort$LineOut" "inAll" "I") (by decide +kernel)
  have hret : ∀ (u : Int32 × Int32 × Int32 × (Nat → Int32)) (H : Heap) (locs : List Loc) (pc : Nat) (ls : Array Slot), va_P D vwCl (wX2_append k_runs_cells h_ h_runs h_runs_cells v_runs_cells_n u) H → va_D A (wX2_append k_runs_cells h_ h_runs h_runs_cells v_runs_cells_n u) → va_S A s.heap H locs → some u = some u0 → decode cX2_append pc = .ok (.return_, 1) → W p l e { frames := 4, cells := 0, slots := 0, locals := 86 } s m args below meth c H locs 0 0 (QV below D [(k_runs_cells, .int)] (wX2_append k_runs_cells h_ h_runs h_runs_cells v_runs_cells_n u0) args s A) (F0 m pc ls []) := fun u H locs pc ls h1 h2 h3 h4 h5 => rV (wf := wX2_append k_runs_cells h_ h_runs h_runs_cells v_runs_cells_n) hx hb hr hlocks hK h1 h2 h3 h4 h5
  have J73 : ∀ (s1 : Int32) (v_inAll : Int32) (v_runs_head : Int32) (v_runs_size : Int32) (v_runs_cells_a : Nat → Int32) (H : Heap) (locs : List Loc) (ls : Array Slot), F_X2_append_73 v_runs_cells_n s1 v_inAll v_runs_head v_runs_size v_runs_cells_a = some u0 → lv_has ls 2 [(0, .ref h_)] → va_P D vwCl [oX2 h_ h_runs v_inAll, oX5 h_runs h_runs_cells v_runs_head v_runs_size, aI h_runs_cells k_runs_cells v_runs_cells_n v_runs_cells_a] H → va_D A [oX2 h_ h_runs v_inAll, oX5 h_runs h_runs_cells v_runs_head v_runs_size, aI h_runs_cells k_runs_cells v_runs_cells_n v_runs_cells_a] → va_S A s.heap H locs → W p l e { frames := 4, cells := 0, slots := 0, locals := 86 } s m args below meth c H locs 0 0 (QV below D [(k_runs_cells, .int)] (wX2_append k_runs_cells h_ h_runs h_runs_cells v_runs_cells_n u0) args s A) (F0 m 73 ls [.int s1, .ref h_runs]) := by
    intro s1 v_inAll v_runs_head v_runs_size v_runs_cells_a H locs ls hF hl hP hD hS
    unfold F_X2_append_73 at hF
    obtain ⟨u1, hu1, hF⟩ := bd_el hF
    refine cVV (q0 := 1) (ci := 5) (As := [.int s1]) (rest := []) (wr := [oX2 h_ h_runs v_inAll]) (ws' := [oX2 h_ h_runs v_inAll, oX5 h_runs h_runs_cells v_runs_head u1.1, aI h_runs_cells k_runs_cells v_runs_cells_n u1.2]) ⟨hx, hb, hml, hown, hts⟩ (mX5_add D k_runs_cells h_runs h_runs_cells v_runs_head v_runs_size v_runs_cells_n v_runs_cells_a s1 u1 hu1) (cwV 1 hts gX2_append_X5_add rfl rfl rfl (by decide +kernel) ⟨Nat.le_of_ble_eq_true rfl, Nat.le_of_ble_eq_true rfl⟩) hK hP hD hS hA [0] [1, 2] [0] [0, 1, 2] rfl rfl rfl rfl rfl rfl rfl rfl rfl hl.1 rfl (Nat.le_of_ble_eq_true rfl) dX2_append_73 ⟨Nat.le_refl _, Nat.le_refl _⟩ (fun H locs hP hD hS => ?_)
    refine lv_aload_n hx hb dX2_append_76 rfl (lv_at hl 0 rfl) ?_
    refine lv_dup hx hb dX2_append_77 rfl ?_
    refine va_get (D := D) (ci := 2) (v := .int v_inAll) (C := RX2) (T := TX2) (N := 2) hx hb hts i_X2 hown hK hP 0 rfl rfl 1 (Nat.le_of_ble_eq_true rfl) f_23 (fun _ h9 => h9) rfl dX2_append_78 ?_
    refine lv_iconst (v := 1) hx hb dX2_append_81 (by decide) ?_
    refine lv_iadd hx hb dX2_append_82 ?_
    refine lv_topi (fun x2 ex2 => ?_)
    replace hF := lt1_x ex2 hF
    refine pf (ci := 2) (v := .int x2) (ty := .int) (C := RX2) (T := TX2) (N := 2) (ws' := [oX2 h_ h_runs x2, oX5 h_runs h_runs_cells v_runs_head u1.1, aI h_runs_cells k_runs_cells v_runs_cells_n u1.2]) hx hb hts i_X2 tyX2_ok nmX2 hown hK hP hD hS 0 rfl rfl 1 (Nat.le_of_ble_eq_true rfl) f_23 rfl rfl (by decide +kernel) rfl rfl (Nat.le_of_ble_eq_true rfl) rfl dX2_append_83 (fun H locs hP hD hS => ?_)
    exact hret (x2, v_runs_head, u1.1, u1.2) _ _ 86 _ hP hD hS hF dX2_append_86
  have J60 : ∀ (l1 : Bool) (v_inAll : Int32) (v_runs_head : Int32) (v_runs_size : Int32) (v_runs_cells_a : Nat → Int32) (H : Heap) (locs : List Loc) (ls : Array Slot), F_X2_append_60 v_runs_cells_n l1 v_inAll v_runs_head v_runs_size v_runs_cells_a = some u0 → lv_has ls 2 [(0, .ref h_), (1, .int (bI l1))] → va_P D vwCl [oX2 h_ h_runs v_inAll, oX5 h_runs h_runs_cells v_runs_head v_runs_size, aI h_runs_cells k_runs_cells v_runs_cells_n v_runs_cells_a] H → va_D A [oX2 h_ h_runs v_inAll, oX5 h_runs h_runs_cells v_runs_head v_runs_size, aI h_runs_cells k_runs_cells v_runs_cells_n v_runs_cells_a] → va_S A s.heap H locs → W p l e { frames := 4, cells := 0, slots := 0, locals := 86 } s m args below meth c H locs 0 0 (QV below D [(k_runs_cells, .int)] (wX2_append k_runs_cells h_ h_runs h_runs_cells v_runs_cells_n u0) args s A) (F0 m 60 ls []) := by
    intro l1 v_inAll v_runs_head v_runs_size v_runs_cells_a H locs ls hF hl hP hD hS
    unfold F_X2_append_60 at hF
    refine lv_aload_n hx hb dX2_append_60 rfl (lv_at hl 0 rfl) ?_
    refine va_get (D := D) (ci := 2) (v := .ref h_runs) (C := RX2) (T := TX2) (N := 2) hx hb hts i_X2 hown hK hP 0 rfl rfl 0 (Nat.le_of_ble_eq_true rfl) f_14 (fun _ h9 => h9) rfl dX2_append_61 ?_
    refine lv_iload_n hx hb dX2_append_64 rfl (lv_at hl 1 rfl) ?_
    refine lv_if_eq (tgt := 72) hx hb dX2_append_65 (by decide) (fun c3 => ?_) (fun c3 => ?_)
    · replace hF := bt_f (bI_0 c3) hF
      refine lv_iconst (v := 2) hx hb dX2_append_72 (by decide) ?_
      exact J73 2 v_inAll v_runs_head v_runs_size v_runs_cells_a _ _ _ hF (lv_sub hl [0] rfl) hP hD hS
    · replace hF := bt_t (bI_n0 c3) hF
      refine lv_iconst (v := 3) hx hb dX2_append_68 (by decide) ?_
      refine lv_goto (tgt := 73) hx hb dX2_append_69 (by decide) ?_
      exact J73 3 v_inAll v_runs_head v_runs_size v_runs_cells_a _ _ _ hF (lv_sub hl [0] rfl) hP hD hS
  have J43 : ∀ (l1 : Bool) (v_inAll : Int32) (v_runs_head : Int32) (v_runs_size : Int32) (v_runs_cells_a : Nat → Int32) (H : Heap) (locs : List Loc) (ls : Array Slot), F_X2_append_43 v_runs_cells_n l1 v_inAll v_runs_head v_runs_size v_runs_cells_a = some u0 → lv_has ls 2 [(0, .ref h_), (1, .int (bI l1))] → va_P D vwCl [oX2 h_ h_runs v_inAll, oX5 h_runs h_runs_cells v_runs_head v_runs_size, aI h_runs_cells k_runs_cells v_runs_cells_n v_runs_cells_a] H → va_D A [oX2 h_ h_runs v_inAll, oX5 h_runs h_runs_cells v_runs_head v_runs_size, aI h_runs_cells k_runs_cells v_runs_cells_n v_runs_cells_a] → va_S A s.heap H locs → W p l e { frames := 4, cells := 0, slots := 0, locals := 86 } s m args below meth c H locs 0 0 (QV below D [(k_runs_cells, .int)] (wX2_append k_runs_cells h_ h_runs h_runs_cells v_runs_cells_n u0) args s A) (F0 m 43 ls []) := by
    intro l1 v_inAll v_runs_head v_runs_size v_runs_cells_a H locs ls hF hl hP hD hS
    unfold F_X2_append_43 at hF
    refine lv_aload_n hx hb dX2_append_43 rfl (lv_at hl 0 rfl) ?_
    refine va_get (D := D) (ci := 2) (v := .ref h_runs) (C := RX2) (T := TX2) (N := 2) hx hb hts i_X2 hown hK hP 0 rfl rfl 0 (Nat.le_of_ble_eq_true rfl) f_14 (fun _ h9 => h9) rfl dX2_append_44 ?_
    obtain ⟨u4, hu4, hF⟩ := bd_el hF
    refine cVI (q0 := 1) (ci := 5) (As := []) (rest := []) (wr := [oX2 h_ h_runs v_inAll]) (ws' := [oX2 h_ h_runs v_inAll, oX5 h_runs h_runs_cells v_runs_head v_runs_size, aI h_runs_cells k_runs_cells v_runs_cells_n v_runs_cells_a]) (rv := u4) ⟨hx, hb, hml, hown, hts⟩ (mX5_room D k_runs_cells h_runs h_runs_cells v_runs_head v_runs_size v_runs_cells_n v_runs_cells_a u4 hu4) (cwV 0 hts gX2_append_X5_room rfl rfl rfl (by decide +kernel) ⟨Nat.le_of_ble_eq_true rfl, Nat.le_of_ble_eq_true rfl⟩) hK hP hD hS hA [0] [1, 2] [0] [0, 1, 2] rfl rfl rfl rfl rfl rfl rfl rfl rfl hl.1 rfl (Nat.le_of_ble_eq_true rfl) rfl dX2_append_47 ⟨Nat.le_refl _, Nat.le_refl _⟩ (fun H locs hP hD hS => ?_)
    refine lv_if_ne (tgt := 60) hx hb dX2_append_50 (by decide) (fun c5 => ?_) (fun c5 => ?_)
    · replace hF := it_f c5 hF
      exact J60 l1 v_inAll v_runs_head v_runs_size v_runs_cells_a _ _ _ hF hl hP hD hS
    · replace hF := it_t c5 hF
      refine lv_aload_n hx hb dX2_append_53 rfl (lv_at hl 0 rfl) ?_
      refine va_get (D := D) (ci := 2) (v := .ref h_runs) (C := RX2) (T := TX2) (N := 2) hx hb hts i_X2 hown hK hP 0 rfl rfl 0 (Nat.le_of_ble_eq_true rfl) f_14 (fun _ h9 => h9) rfl dX2_append_54 ?_
      obtain ⟨u6, hu6, hF⟩ := bd_el hF
      refine cVV (q0 := 1) (ci := 5) (As := []) (rest := []) (wr := [oX2 h_ h_runs v_inAll]) (ws' := [oX2 h_ h_runs v_inAll, oX5 h_runs h_runs_cells u6.1 u6.2, aI h_runs_cells k_runs_cells v_runs_cells_n v_runs_cells_a]) ⟨hx, hb, hml, hown, hts⟩ (mX5_dropFirst D k_runs_cells h_runs h_runs_cells v_runs_head v_runs_size v_runs_cells_n v_runs_cells_a u6 hu6) (cwV 0 hts gX2_append_X5_dropFirst rfl rfl rfl (by decide +kernel) ⟨Nat.le_of_ble_eq_true rfl, Nat.le_of_ble_eq_true rfl⟩) hK hP hD hS hA [0] [1, 2] [0] [0, 1, 2] rfl rfl rfl rfl rfl rfl rfl rfl rfl hl.1 rfl (Nat.le_of_ble_eq_true rfl) dX2_append_57 ⟨Nat.le_refl _, Nat.le_refl _⟩ (fun H locs hP hD hS => ?_)
      exact J60 l1 v_inAll u6.1 u6.2 v_runs_cells_a _ _ _ hF hl hP hD hS
  unfold F_X2_append at hF
  refine lv_aload_n hx hb dX2_append_0 rfl (lv_at hl 0 rfl) ?_
  refine va_get (D := D) (ci := 2) (v := .ref h_runs) (C := RX2) (T := TX2) (N := 2) hx hb hts i_X2 hown hK hP 0 rfl rfl 0 (Nat.le_of_ble_eq_true rfl) f_14 (fun _ h9 => h9) rfl dX2_append_1 ?_
  obtain ⟨u7, hu7, hF⟩ := bd_el hF
  refine cVI (q0 := 1) (ci := 5) (As := []) (rest := []) (wr := [oX2 h_ h_runs v_inAll, aI h_runs_cells k_runs_cells v_runs_cells_n v_runs_cells_a]) (ws' := [oX2 h_ h_runs v_inAll, oX5 h_runs h_runs_cells v_runs_head v_runs_size, aI h_runs_cells k_runs_cells v_runs_cells_n v_runs_cells_a]) (rv := bI u7) ⟨hx, hb, hml, hown, hts⟩ (mX5_isEmpty D h_runs h_runs_cells v_runs_head v_runs_size u7 hu7) (cwV 0 hts gX2_append_X5_isEmpty rfl rfl rfl (by decide +kernel) ⟨Nat.le_of_ble_eq_true rfl, Nat.le_of_ble_eq_true rfl⟩) hK hP hD hS hA [] [1] [0, 2] [0, 2, 1] rfl rfl rfl rfl rfl rfl rfl rfl rfl hl.1 rfl (Nat.le_of_ble_eq_true rfl) rfl dX2_append_4 ⟨Nat.le_refl _, Nat.le_refl _⟩ (fun H locs hP hD hS => ?_)
  refine lv_if_ne (tgt := 43) hx hb dX2_append_7 (by decide) (fun c8 => ?_) (fun c8 => ?_)
  · replace hF := bt_t (bI_n0 c8) hF
    exact J43 p1 v_inAll v_runs_head v_runs_size v_runs_cells_a _ _ _ hF hl hP hD hS
  · replace hF := bt_f (bI_0 c8) hF
    refine lv_aload_n hx hb dX2_append_10 rfl (lv_at hl 0 rfl) ?_
    refine lv_iconst (v := 0) hx hb dX2_append_11 (by decide) ?_
    obtain ⟨u9, hu9, hF⟩ := bd_el hF
    refine cVI (q0 := 0) (ci := 2) (As := [.int 0]) (rest := []) (wr := []) (ws' := [oX2 h_ h_runs v_inAll, oX5 h_runs h_runs_cells v_runs_head v_runs_size, aI h_runs_cells k_runs_cells v_runs_cells_n v_runs_cells_a]) (rv := bI u9) ⟨hx, hb, hml, hown, hts⟩ (mX2_runIsHigh D k_runs_cells h_ h_runs h_runs_cells v_inAll v_runs_head v_runs_size v_runs_cells_n v_runs_cells_a 0 u9 hu9) (cwV 1 hts gX2_append_X2_runIsHigh rfl rfl rfl (by decide +kernel) ⟨Nat.le_of_ble_eq_true rfl, Nat.le_of_ble_eq_true rfl⟩) hK hP hD hS hA [0] [0, 1, 2] [] [0, 1, 2] rfl rfl rfl rfl rfl rfl rfl rfl rfl hl.1 rfl (Nat.le_of_ble_eq_true rfl) rfl dX2_append_12 ⟨Nat.le_refl _, Nat.le_refl _⟩ (fun H locs hP hD hS => ?_)
    refine lv_iload_n hx hb dX2_append_15 rfl (lv_at hl 1 rfl) ?_
    refine lv_icmp_ne (tgt := 43) hx hb dX2_append_16 (by decide) (fun c10 => ?_) (fun c10 => ?_)
    · replace hF := it_f c10 hF
      exact J43 p1 v_inAll v_runs_head v_runs_size v_runs_cells_a _ _ _ hF hl hP hD hS
    · replace hF := it_t c10 hF
      refine lv_aload_n hx hb dX2_append_19 rfl (lv_at hl 0 rfl) ?_
      refine va_get (D := D) (ci := 2) (v := .ref h_runs) (C := RX2) (T := TX2) (N := 2) hx hb hts i_X2 hown hK hP 0 rfl rfl 0 (Nat.le_of_ble_eq_true rfl) f_14 (fun _ h9 => h9) rfl dX2_append_20 ?_
      refine lv_aload_n hx hb dX2_append_23 rfl (lv_at hl 0 rfl) ?_
      refine va_get (D := D) (ci := 2) (v := .ref h_runs) (C := RX2) (T := TX2) (N := 2) hx hb hts i_X2 hown hK hP 0 rfl rfl 0 (Nat.le_of_ble_eq_true rfl) f_14 (fun _ h9 => h9) rfl dX2_append_24 ?_
      obtain ⟨u11, hu11, hF⟩ := bd_el hF
      refine cVI (q0 := 1) (ci := 5) (As := []) (rest := [.ref h_runs]) (wr := [oX2 h_ h_runs v_inAll, aI h_runs_cells k_runs_cells v_runs_cells_n v_runs_cells_a]) (ws' := [oX2 h_ h_runs v_inAll, oX5 h_runs h_runs_cells v_runs_head v_runs_size, aI h_runs_cells k_runs_cells v_runs_cells_n v_runs_cells_a]) (rv := u11) ⟨hx, hb, hml, hown, hts⟩ (mX5_size D h_runs h_runs_cells v_runs_head v_runs_size u11 hu11) (cwV 0 hts gX2_append_X5_size rfl rfl rfl (by decide +kernel) ⟨Nat.le_of_ble_eq_true rfl, Nat.le_of_ble_eq_true rfl⟩) hK hP hD hS hA [] [1] [0, 2] [0, 2, 1] rfl rfl rfl rfl rfl rfl rfl rfl rfl hl.1 rfl (Nat.le_of_ble_eq_true rfl) rfl dX2_append_27 ⟨Nat.le_refl _, Nat.le_refl _⟩ (fun H locs hP hD hS => ?_)
      refine lv_iconst (v := 1) hx hb dX2_append_30 (by decide) ?_
      refine lv_isub hx hb dX2_append_31 ?_
      refine lv_aload_n hx hb dX2_append_32 rfl (lv_at hl 0 rfl) ?_
      refine lv_iconst (v := 0) hx hb dX2_append_33 (by decide) ?_
      obtain ⟨u12, hu12, hF⟩ := bd_el hF
      refine cVI (q0 := 0) (ci := 2) (As := [.int 0]) (rest := [.int (u11 - 1), .ref h_runs]) (wr := []) (ws' := [oX2 h_ h_runs v_inAll, oX5 h_runs h_runs_cells v_runs_head v_runs_size, aI h_runs_cells k_runs_cells v_runs_cells_n v_runs_cells_a]) (rv := u12) ⟨hx, hb, hml, hown, hts⟩ (mX2_fromEnd D k_runs_cells h_ h_runs h_runs_cells v_inAll v_runs_head v_runs_size v_runs_cells_n v_runs_cells_a 0 u12 hu12) (cwV 1 hts gX2_append_X2_fromEnd rfl rfl rfl (by decide +kernel) ⟨Nat.le_of_ble_eq_true rfl, Nat.le_of_ble_eq_true rfl⟩) hK hP hD hS hA [0] [0, 1, 2] [] [0, 1, 2] rfl rfl rfl rfl rfl rfl rfl rfl rfl hl.1 rfl (Nat.le_of_ble_eq_true rfl) rfl dX2_append_34 ⟨Nat.le_refl _, Nat.le_refl _⟩ (fun H locs hP hD hS => ?_)
      refine lv_iconst (v := 2) hx hb dX2_append_37 (by decide) ?_
      refine lv_iadd hx hb dX2_append_38 ?_
      obtain ⟨u13, hu13, hF⟩ := bd_el hF
      refine cVV (q0 := 1) (ci := 5) (As := [.int (u11 - 1), .int (u12 + 2)]) (rest := []) (wr := [oX2 h_ h_runs v_inAll]) (ws' := [oX2 h_ h_runs v_inAll, oX5 h_runs h_runs_cells v_runs_head v_runs_size, aI h_runs_cells k_runs_cells v_runs_cells_n u13]) ⟨hx, hb, hml, hown, hts⟩ (mX5_setAt D k_runs_cells h_runs h_runs_cells v_runs_head v_runs_size v_runs_cells_n v_runs_cells_a (u11 - 1) (u12 + 2) u13 hu13) (cwV 2 hts gX2_append_X5_setAt rfl rfl rfl (by decide +kernel) ⟨Nat.le_of_ble_eq_true rfl, Nat.le_of_ble_eq_true rfl⟩) hK hP hD hS hA [0] [1, 2] [0] [0, 1, 2] rfl rfl rfl rfl rfl rfl rfl rfl rfl hl.1 rfl (Nat.le_of_ble_eq_true rfl) dX2_append_39 ⟨Nat.le_refl _, Nat.le_refl _⟩ (fun H locs hP hD hS => ?_)
      exact hret (v_inAll, v_runs_head, v_runs_size, u13) _ _ 42 _ hP hD hS hF dX2_append_42
