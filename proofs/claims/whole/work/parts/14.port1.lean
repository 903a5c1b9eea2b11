theorem dX8_stepSender_0 : decode cX8_stepSender 0 = .ok (.aload_n 0, 1) := by decide +kernel
theorem dX8_stepSender_1 : decode cX8_stepSender 1 = .ok (.getfield 31, 3) := by decide +kernel
theorem dX8_stepSender_4 : decode cX8_stepSender 4 = .ok (.invokevirtual 140, 3) := by decide +kernel
theorem dX8_stepSender_7 : decode cX8_stepSender 7 = .ok (.ifCond .ne 53, 3) := by decide +kernel
theorem dX8_stepSender_10 : decode cX8_stepSender 10 = .ok (.aload_n 0, 1) := by decide +kernel
theorem dX8_stepSender_11 : decode cX8_stepSender 11 = .ok (.getfield 25, 3) := by decide +kernel
theorem dX8_stepSender_14 : decode cX8_stepSender 14 = .ok (.invokevirtual 230, 3) := by decide +kernel
theorem dX8_stepSender_17 : decode cX8_stepSender 17 = .ok (.ifCond .ne 43, 3) := by decide +kernel
theorem dX8_stepSender_20 : decode cX8_stepSender 20 = .ok (.aload_n 0, 1) := by decide +kernel
theorem dX8_stepSender_21 : decode cX8_stepSender 21 = .ok (.getfield 31, 3) := by decide +kernel
theorem dX8_stepSender_24 : decode cX8_stepSender 24 = .ok (.aload_n 0, 1) := by decide +kernel
theorem dX8_stepSender_25 : decode cX8_stepSender 25 = .ok (.getfield 73, 3) := by decide +kernel
theorem dX8_stepSender_28 : decode cX8_stepSender 28 = .ok (.aload_n 0, 1) := by decide +kernel
theorem dX8_stepSender_29 : decode cX8_stepSender 29 = .ok (.getfield 25, 3) := by decide +kernel
theorem dX8_stepSender_32 : decode cX8_stepSender 32 = .ok (.invokevirtual 224, 3) := by decide +kernel
theorem dX8_stepSender_35 : decode cX8_stepSender 35 = .ok (.invokevirtual 273, 3) := by decide +kernel
theorem dX8_stepSender_38 : decode cX8_stepSender 38 = .ok (.aload_n 0, 1) := by decide +kernel
theorem dX8_stepSender_39 : decode cX8_stepSender 39 = .ok (.getfield 25, 3) := by decide +kernel
theorem dX8_stepSender_42 : decode cX8_stepSender 42 = .ok (.invokevirtual 227, 3) := by decide +kernel
theorem dX8_stepSender_45 : decode cX8_stepSender 45 = .ok (.aload_n 0, 1) := by decide +kernel
theorem dX8_stepSender_46 : decode cX8_stepSender 46 = .ok (.getfield 25, 3) := by decide +kernel
theorem dX8_stepSender_49 : decode cX8_stepSender 49 = .ok (.invokevirtual 230, 3) := by decide +kernel
theorem dX8_stepSender_52 : decode cX8_stepSender 52 = .ok (.ifCond .eq 8, 3) := by decide +kernel
theorem dX8_stepSender_55 : decode cX8_stepSender 55 = .ok (.aload_n 0, 1) := by decide +kernel
theorem dX8_stepSender_56 : decode cX8_stepSender 56 = .ok (.iconst 1, 1) := by decide +kernel
theorem dX8_stepSender_57 : decode cX8_stepSender 57 = .ok (.putfield 179, 3) := by decide +kernel
theorem dX8_stepSender_60 : decode cX8_stepSender 60 = .ok (.aload_n 0, 1) := by decide +kernel
theorem dX8_stepSender_61 : decode cX8_stepSender 61 = .ok (.getfield 31, 3) := by decide +kernel
theorem dX8_stepSender_64 : decode cX8_stepSender 64 = .ok (.invokevirtual 276, 3) := by decide +kernel
theorem dX8_stepSender_67 : decode cX8_stepSender 67 = .ok (.ireturn, 1) := by decide +kernel
set_option maxRecDepth 20000 in
theorem ggX8_stepSender_X6_isBusy : GoodIn wsX8_stepSender wsX6_isBusy := goodIn_r _ [9, 10, 93, 94, 95, 96] (by decide +kernel) (by decide +kernel)
set_option maxRecDepth 20000 in
theorem gX8_stepSender_X6_isBusy : GoodIn wsX8_stepSender (wsV RX8 140 RX6 yX6_isBusy wsX6_isBusy) := goodIn_app (goodIn_of _ (by decide +kernel)) ggX8_stepSender_X6_isBusy
set_option maxRecDepth 20000 in
theorem ggX8_stepSender_X5_isEmpty : GoodIn wsX8_stepSender wsX5_isEmpty := goodIn_r _ [15, 16, 97, 98, 99] (by decide +kernel) (by decide +kernel)
set_option maxRecDepth 20000 in
theorem gX8_stepSender_X5_isEmpty : GoodIn wsX8_stepSender (wsV RX8 230 RX5 yX5_isEmpty wsX5_isEmpty) := goodIn_app (goodIn_of _ (by decide +kernel)) ggX8_stepSender_X5_isEmpty
set_option maxRecDepth 20000 in
theorem ggX8_stepSender_X5_first : GoodIn wsX8_stepSender wsX5_first := goodIn_r _ [20, 21, 22, 23, 14, 24, 16, 25, 26, 27, 28, 29, 30, 97, 98, 99] (by decide +kernel) (by decide +kernel)
set_option maxRecDepth 20000 in
theorem gX8_stepSender_X5_first : GoodIn wsX8_stepSender (wsV RX8 224 RX5 yX5_first wsX5_first) := goodIn_app (goodIn_of _ (by decide +kernel)) ggX8_stepSender_X5_first
set_option maxRecDepth 20000 in
theorem ggX8_stepSender_X6_begin : GoodIn wsX8_stepSender wsX6_begin := goodIn_r _ [34, 35, 36, 37, 10, 93, 94, 95, 96] (by decide +kernel) (by decide +kernel)
set_option maxRecDepth 20000 in
theorem gX8_stepSender_X6_begin : GoodIn wsX8_stepSender (wsV RX8 273 RX6 yX6_begin wsX6_begin) := goodIn_app (goodIn_of _ (by decide +kernel)) ggX8_stepSender_X6_begin
set_option maxRecDepth 20000 in
theorem ggX8_stepSender_X5_dropFirst : GoodIn wsX8_stepSender wsX5_dropFirst := goodIn_r _ [41, 16, 30, 26, 27, 28, 14, 29, 25, 97, 98, 99] (by decide +kernel) (by decide +kernel)
set_option maxRecDepth 20000 in
theorem gX8_stepSender_X5_dropFirst : GoodIn wsX8_stepSender (wsV RX8 227 RX5 yX5_dropFirst wsX5_dropFirst) := goodIn_app (goodIn_of _ (by decide +kernel)) ggX8_stepSender_X5_dropFirst
set_option maxRecDepth 20000 in
theorem ggX8_stepSender_X6_next : GoodIn wsX8_stepSender wsX6_next := goodIn_r _ [45, 10, 35, 36, 37, 46, 47, 48, 49, 50, 51, 52, 53, 54, 55, 56, 57, 58, 59, 60, 61, 62, 63, 64, 65, 66, 67, 68, 69, 70, 71, 72, 73, 74, 93, 94, 95, 96] (by decide +kernel) (by decide +kernel)
set_option maxRecDepth 20000 in
theorem gX8_stepSender_X6_next : GoodIn wsX8_stepSender (wsV RX8 276 RX6 yX6_next wsX6_next) := goodIn_app (goodIn_of _ (by decide +kernel)) ggX8_stepSender_X6_next
theorem dX8_rowRoom_0 : decode cX8_rowRoom 0 = .ok (.aload_n 0, 1) := by decide +kernel
theorem dX8_rowRoom_1 : decode cX8_rowRoom 1 = .ok (.getfield 172, 3) := by decide +kernel
theorem dX8_rowRoom_4 : decode cX8_rowRoom 4 = .ok (.ifCond .eq 8, 3) := by decide +kernel
theorem dX8_rowRoom_7 : decode cX8_rowRoom 7 = .ok (.bipush 16, 2) := by decide +kernel
theorem dX8_rowRoom_9 : decode cX8_rowRoom 9 = .ok (.goto 4, 3) := by decide +kernel
theorem dX8_rowRoom_12 : decode cX8_rowRoom 12 = .ok (.iconst 1, 1) := by decide +kernel
theorem dX8_rowRoom_13 : decode cX8_rowRoom 13 = .ok (.ireturn, 1) := by decide +kernel
theorem dX8_addReceived_0 : decode cX8_addReceived 0 = .ok (.aload_n 0, 1) := by decide +kernel
theorem dX8_addReceived_1 : decode cX8_addReceived 1 = .ok (.getfield 21, 3) := by decide +kernel
theorem dX8_addReceived_4 : decode cX8_addReceived 4 = .ok (.invokevirtual 124, 3) := by decide +kernel
theorem dX8_addReceived_7 : decode cX8_addReceived 7 = .ok (.aload_n 0, 1) := by decide +kernel
theorem dX8_addReceived_8 : decode cX8_addReceived 8 = .ok (.invokevirtual 215, 3) := by decide +kernel
theorem dX8_addReceived_11 : decode cX8_addReceived 11 = .ok (.if_icmp .ge 14, 3) := by decide +kernel
theorem dX8_addReceived_14 : decode cX8_addReceived 14 = .ok (.aload_n 0, 1) := by decide +kernel
theorem dX8_addReceived_15 : decode cX8_addReceived 15 = .ok (.getfield 21, 3) := by decide +kernel
theorem dX8_addReceived_18 : decode cX8_addReceived 18 = .ok (.iload_n 1, 1) := by decide +kernel
theorem dX8_addReceived_19 : decode cX8_addReceived 19 = .ok (.invokevirtual 218, 3) := by decide +kernel
theorem dX8_addReceived_22 : decode cX8_addReceived 22 = .ok (.goto 23, 3) := by decide +kernel
theorem dX8_addReceived_25 : decode cX8_addReceived 25 = .ok (.aload_n 0, 1) := by decide +kernel
theorem dX8_addReceived_26 : decode cX8_addReceived 26 = .ok (.iconst 1, 1) := by decide +kernel
theorem dX8_addReceived_27 : decode cX8_addReceived 27 = .ok (.putfield 176, 3) := by decide +kernel
theorem dX8_addReceived_30 : decode cX8_addReceived 30 = .ok (.aload_n 0, 1) := by decide +kernel
theorem dX8_addReceived_31 : decode cX8_addReceived 31 = .ok (.getfield 172, 3) := by decide +kernel
theorem dX8_addReceived_34 : decode cX8_addReceived 34 = .ok (.ifCond .ne 11, 3) := by decide +kernel
theorem dX8_addReceived_37 : decode cX8_addReceived 37 = .ok (.aload_n 0, 1) := by decide +kernel
theorem dX8_addReceived_38 : decode cX8_addReceived 38 = .ok (.getfield 21, 3) := by decide +kernel
theorem dX8_addReceived_41 : decode cX8_addReceived 41 = .ok (.iload_n 1, 1) := by decide +kernel
theorem dX8_addReceived_42 : decode cX8_addReceived 42 = .ok (.invokevirtual 221, 3) := by decide +kernel
theorem dX8_addReceived_45 : decode cX8_addReceived 45 = .ok (.aload_n 0, 1) := by decide +kernel
theorem dX8_addReceived_46 : decode cX8_addReceived 46 = .ok (.aload_n 0, 1) := by decide +kernel
theorem dX8_addReceived_47 : decode cX8_addReceived 47 = .ok (.getfield 127, 3) := by decide +kernel
theorem dX8_addReceived_50 : decode cX8_addReceived 50 = .ok (.putfield 185, 3) := by decide +kernel
theorem dX8_addReceived_53 : decode cX8_addReceived 53 = .ok (.return_, 1) := by decide +kernel
set_option maxRecDepth 20000 in
theorem ggX8_addReceived_X5_size : GoodIn wsX8_addReceived wsX5_size := goodIn_r _ [10, 11, 53, 54, 55] (by decide +kernel) (by decide +kernel)
set_option maxRecDepth 20000 in
theorem gX8_addReceived_X5_size : GoodIn wsX8_addReceived (wsV RX8 124 RX5 yX5_size wsX5_size) := goodIn_app (goodIn_of _ (by decide +kernel)) ggX8_addReceived_X5_size
set_option maxRecDepth 20000 in
theorem ggX8_addReceived_X8_rowRoom : GoodIn wsX8_addReceived wsX8_rowRoom := goodIn_r _ [16, 3, 35, 36, 37, 38, 39, 40, 41, 42, 43, 44, 45, 46, 47, 48, 49, 50, 51, 52] (by decide +kernel) (by decide +kernel)
set_option maxRecDepth 20000 in
theorem gX8_addReceived_X8_rowRoom : GoodIn wsX8_addReceived (wsV RX8 215 RX8 yX8_rowRoom wsX8_rowRoom) := goodIn_app (goodIn_of _ (by decide +kernel)) ggX8_addReceived_X8_rowRoom
set_option maxRecDepth 20000 in
theorem ggX8_addReceived_X5_add : GoodIn wsX8_addReceived wsX5_add := goodIn_r _ [20, 11, 21, 22, 23, 24, 9, 25, 26, 27, 28, 29, 30, 53, 54, 55] (by decide +kernel) (by decide +kernel)
set_option maxRecDepth 20000 in
theorem gX8_addReceived_X5_add : GoodIn wsX8_addReceived (wsV RX8 218 RX5 yX5_add wsX5_add) := goodIn_app (goodIn_of _ (by decide +kernel)) ggX8_addReceived_X5_add
set_option maxRecDepth 20000 in
theorem ggX8_addReceived_X5_setFirst : GoodIn wsX8_addReceived wsX5_setFirst := goodIn_r _ [34, 22, 23, 24, 9, 25, 11, 21, 26, 27, 28, 29, 30, 53, 54, 55] (by decide +kernel) (by decide +kernel)
set_option maxRecDepth 20000 in
theorem gX8_addReceived_X5_setFirst : GoodIn wsX8_addReceived (wsV RX8 221 RX5 yX5_setFirst wsX5_setFirst) := goodIn_app (goodIn_of _ (by decide +kernel)) ggX8_addReceived_X5_setFirst
theorem dX8_stepLate_0 : decode cX8_stepLate 0 = .ok (.aload_n 0, 1) := by decide +kernel
theorem dX8_stepLate_1 : decode cX8_stepLate 1 = .ok (.getfield 172, 3) := by decide +kernel
theorem dX8_stepLate_4 : decode cX8_stepLate 4 = .ok (.ifCond .eq 13, 3) := by decide +kernel
theorem dX8_stepLate_7 : decode cX8_stepLate 7 = .ok (.aload_n 0, 1) := by decide +kernel
theorem dX8_stepLate_8 : decode cX8_stepLate 8 = .ok (.getfield 21, 3) := by decide +kernel
theorem dX8_stepLate_11 : decode cX8_stepLate 11 = .ok (.invokevirtual 230, 3) := by decide +kernel
theorem dX8_stepLate_14 : decode cX8_stepLate 14 = .ok (.ifCond .eq 4, 3) := by decide +kernel
theorem dX8_stepLate_17 : decode cX8_stepLate 17 = .ok (.return_, 1) := by decide +kernel
theorem dX8_stepLate_18 : decode cX8_stepLate 18 = .ok (.aload_n 0, 1) := by decide +kernel
theorem dX8_stepLate_19 : decode cX8_stepLate 19 = .ok (.getfield 127, 3) := by decide +kernel
theorem dX8_stepLate_22 : decode cX8_stepLate 22 = .ok (.aload_n 0, 1) := by decide +kernel
theorem dX8_stepLate_23 : decode cX8_stepLate 23 = .ok (.getfield 185, 3) := by decide +kernel
theorem dX8_stepLate_26 : decode cX8_stepLate 26 = .ok (.isub, 1) := by decide +kernel
theorem dX8_stepLate_27 : decode cX8_stepLate 27 = .ok (.iconst 4, 1) := by decide +kernel
theorem dX8_stepLate_28 : decode cX8_stepLate 28 = .ok (.aload_n 0, 1) := by decide +kernel
theorem dX8_stepLate_29 : decode cX8_stepLate 29 = .ok (.getfield 73, 3) := by decide +kernel
theorem dX8_stepLate_32 : decode cX8_stepLate 32 = .ok (.invokestatic 277, 3) := by decide +kernel
theorem dX8_stepLate_35 : decode cX8_stepLate 35 = .ok (.imul, 1) := by decide +kernel
theorem dX8_stepLate_36 : decode cX8_stepLate 36 = .ok (.if_icmp .lt 8, 3) := by decide +kernel
theorem dX8_stepLate_39 : decode cX8_stepLate 39 = .ok (.aload_n 0, 1) := by decide +kernel
theorem dX8_stepLate_40 : decode cX8_stepLate 40 = .ok (.iconst 1, 1) := by decide +kernel
theorem dX8_stepLate_41 : decode cX8_stepLate 41 = .ok (.putfield 182, 3) := by decide +kernel
theorem dX8_stepLate_44 : decode cX8_stepLate 44 = .ok (.return_, 1) := by decide +kernel
set_option maxRecDepth 20000 in
theorem ggX8_stepLate_X5_isEmpty : GoodIn wsX8_stepLate wsX5_isEmpty := goodIn_r _ [11, 12, 47, 48, 49] (by decide +kernel) (by decide +kernel)
set_option maxRecDepth 20000 in
theorem gX8_stepLate_X5_isEmpty : GoodIn wsX8_stepLate (wsV RX8 230 RX5 yX5_isEmpty wsX5_isEmpty) := goodIn_app (goodIn_of _ (by decide +kernel)) ggX8_stepLate_X5_isEmpty
set_option maxRecDepth 20000 in
theorem ggX8_stepLate_X7_beats : GoodIn wsX8_stepLate wsX7_beats := goodIn_r _ [16, 17, 18, 15, 19, 20, 21, 22, 23, 24, 25, 26, 27, 28] (by decide +kernel) (by decide +kernel)
set_option maxRecDepth 20000 in
theorem gX8_stepLate_X7_beats : GoodIn wsX8_stepLate (va_wsS RX8 277 yX7_beats wsX7_beats) := goodIn_app (goodIn_of _ (by decide +kernel)) ggX8_stepLate_X7_beats
def F_X8_stepSender_60 (v_lineControl : Int32) (v_sending_cells_n : Nat) (v_sending_cells_a : Nat → Int32) (v_emptyUp : Bool) (v_sending_head : Int32) (v_sending_size : Int32) (v_sender_control : Int32) (v_sender_character : Int32) (v_sender_beat : Int32) (v_sender_busy : Bool) : Option (Bool × Bool × Int32 × Int32 × Int32 × Int32 × Int32 × Bool) := bd (F_X6_next v_sender_control v_sender_character v_sender_beat v_sender_busy) (fun u1 => some (u1.1, v_emptyUp, v_sending_head, v_sending_size, v_sender_control, v_sender_character, u1.2.1, u1.2.2))
def F_X8_stepSender  (v_lineControl : Int32) (v_emptyUp : Bool) (v_sending_head : Int32) (v_sending_size : Int32) (v_sending_cells_n : Nat) (v_sending_cells_a : Nat → Int32) (v_sender_control : Int32) (v_sender_character : Int32) (v_sender_beat : Int32) (v_sender_busy : Bool) : Option (Bool × Bool × Int32 × Int32 × Int32 × Int32 × Int32 × Bool) := bd (F_X6_isBusy v_sender_busy) (fun u2 => bt u2 (F_X8_stepSender_60 v_lineControl v_sending_cells_n v_sending_cells_a v_emptyUp v_sending_head v_sending_size v_sender_control v_sender_character v_sender_beat v_sender_busy) (bd (F_X5_isEmpty v_sending_size) (fun u4 => bt u4 (F_X8_stepSender_60 v_lineControl v_sending_cells_n v_sending_cells_a v_emptyUp v_sending_head v_sending_size v_sender_control v_sender_character v_sender_beat v_sender_busy) (bd (F_X5_first v_sending_head v_sending_size v_sending_cells_n v_sending_cells_a) (fun u6 => bd (F_X6_begin v_lineControl u6 v_sender_control v_sender_character v_sender_beat v_sender_busy) (fun u7 => bd (F_X5_dropFirst v_sending_head v_sending_size v_sending_cells_n) (fun u8 => bd (F_X5_isEmpty u8.2) (fun u9 => bt u9 (F_X8_stepSender_60 v_lineControl v_sending_cells_n v_sending_cells_a true u8.1 u8.2 u7.1 u7.2.1 u7.2.2.1 u7.2.2.2) (F_X8_stepSender_60 v_lineControl v_sending_cells_n v_sending_cells_a v_emptyUp u8.1 u8.2 u7.1 u7.2.1 u7.2.2.1 u7.2.2.2)))))))))
def wX8_stepSender (k_sending_cells : ClassId) (h_ : Nat) (h_divider : Nat) (h_received : Nat) (h_sending : Nat) (h_sender : Nat) (h_receiver : Nat) (h_modem : Nat) (h_lineIn : Nat) (h_lineOut : Nat) (h_sending_cells : Nat) (v_wanted : Int32) (v_lineControl : Int32) (v_kept : Int32) (v_level : Int32) (v_rowsOn : Bool) (v_overrun : Bool) (v_lateUp : Bool) (v_beats : Int32) (v_quietSince : Int32) (v_sending_cells_n : Nat) (v_sending_cells_a : Nat → Int32) (u : Bool × Bool × Int32 × Int32 × Int32 × Int32 × Int32 × Bool) : va_W := [oX8 h_ h_divider h_received h_sending h_sender h_receiver h_modem h_lineIn h_lineOut v_wanted v_lineControl v_kept v_level v_rowsOn v_overrun u.2.1 v_lateUp v_beats v_quietSince, oX5 h_sending h_sending_cells u.2.2.1 u.2.2.2.1, aI h_sending_cells k_sending_cells v_sending_cells_n v_sending_cells_a, oX6 h_sender u.2.2.2.2.1 u.2.2.2.2.2.1 u.2.2.2.2.2.2.1 u.2.2.2.2.2.2.2]
set_option maxHeartbeats 4000000 in
set_option maxRecDepth 100000 in
theorem mX8_stepSender {l : Launch} (D : va_G) (k_sending_cells : ClassId) (h_ : Nat) (h_divider : Nat) (h_received : Nat) (h_sending : Nat) (h_sender : Nat) (h_receiver : Nat) (h_modem : Nat) (h_lineIn : Nat) (h_lineOut : Nat) (h_sending_cells : Nat) (v_wanted : Int32) (v_lineControl : Int32) (v_kept : Int32) (v_level : Int32) (v_rowsOn : Bool) (v_overrun : Bool) (v_emptyUp : Bool) (v_lateUp : Bool) (v_beats : Int32) (v_quietSince : Int32) (v_sending_head : Int32) (v_sending_size : Int32) (v_sending_cells_n : Nat) (v_sending_cells_a : Nat → Int32) (v_sender_control : Int32) (v_sender_character : Int32) (v_sender_beat : Int32) (v_sender_busy : Bool) (u0 : Bool × Bool × Int32 × Int32 × Int32 × Int32 × Int32 × Bool) (hF : F_X8_stepSender v_lineControl v_emptyUp v_sending_head v_sending_size v_sending_cells_n v_sending_cells_a v_sender_control v_sender_character v_sender_beat v_sender_busy = some u0) : MI l yX8_stepSender wsX8_stepSender { frames := 4, cells := 0, slots := 0, locals := 88 } D [(k_sending_cells, .int)] [.ref h_] [oX8 h_ h_divider h_received h_sending h_sender h_receiver h_modem h_lineIn h_lineOut v_wanted v_lineControl v_kept v_level v_rowsOn v_overrun v_emptyUp v_lateUp v_beats v_quietSince, oX5 h_sending h_sending_cells v_sending_head v_sending_size, aI h_sending_cells k_sending_cells v_sending_cells_n v_sending_cells_a, oX6 h_sender v_sender_control v_sender_character v_sender_beat v_sender_busy] (wX8_stepSender k_sending_cells h_ h_divider h_received h_sending h_sender h_receiver h_modem h_lineIn h_lineOut h_sending_cells v_wanted v_lineControl v_kept v_level v_rowsOn v_overrun v_lateUp v_beats v_quietSince v_sending_cells_n v_sending_cells_a u0) (bI u0.1) := by
  refine MI.ofW (cc := cX8_stepSender) (maxL := 1) (ret := (some .boolean)) (lv := [(0, .ref h_)]) (by decide +kernel) rfl (Nat.le_of_ble_eq_true rfl) rfl ?_
  intro p e s m args below meth c A ls hx hb hr hml hts hown hlocks hA hK hP hD hS hl
  replace hown : s.vm.findClass RX8 = some m.cls := hown
  have i_X8 : ∀ w ∈ wsX80, w ∈ wsX8_stepSender := by decide +kernel
  have f_25 := hts (.fieldLink RX8 25 "SerialPort" "sending" "LSerialPort$Ring;") (by decide +kernel)
  have f_31 := hts (.fieldLink RX8 31 "SerialPort" "sender" "LSerialPort$Sender;") (by decide +kernel)
  have f_73 := hts (.fieldLink RX8 73 "SerialPort" "lineControl" "I") (by decide +kernel)
  have f_179 := hts (.fieldLink RX8 179 "SerialPort" "emptyUp" "Z") (by decide +kernel)
  have hret : ∀ (u : Bool × Bool × Int32 × Int32 × Int32 × Int32 × Int32 × Bool) (v : Int32) (H : Heap) (locs : List Loc) (pc : Nat) (ls : Array Slot), va_P D vwCl (wX8_stepSender k_sending_cells h_ h_divider h_received h_sending h_sender h_receiver h_modem h_lineIn h_lineOut h_sending_cells v_wanted v_lineControl v_kept v_level v_rowsOn v_overrun v_lateUp v_beats v_quietSince v_sending_cells_n v_sending_cells_a u) H → va_D A (wX8_stepSender k_sending_cells h_ h_divider h_received h_sending h_sender h_receiver h_modem h_lineIn h_lineOut h_sending_cells v_wanted v_lineControl v_kept v_level v_rowsOn v_overrun v_lateUp v_beats v_quietSince v_sending_cells_n v_sending_cells_a u) → va_S A s.heap H locs → some u = some u0 → v = bI u.1 → decode cX8_stepSender pc = .ok (.ireturn, 1) → W p l e { frames := 4, cells := 0, slots := 0, locals := 88 } s m args below meth c H locs 0 0 (QI below D [(k_sending_cells, .int)] (wX8_stepSender k_sending_cells h_ h_divider h_received h_sending h_sender h_receiver h_modem h_lineIn h_lineOut h_sending_cells v_wanted v_lineControl v_kept v_level v_rowsOn v_overrun v_lateUp v_beats v_quietSince v_sending_cells_n v_sending_cells_a u0) (bI u0.1) args s A) (F0 m pc ls [.int v]) := fun u v H locs pc ls h1 h2 h3 h4 h5 h6 => rZ (wf := wX8_stepSender k_sending_cells h_ h_divider h_received h_sending h_sender h_receiver h_modem h_lineIn h_lineOut h_sending_cells v_wanted v_lineControl v_kept v_level v_rowsOn v_overrun v_lateUp v_beats v_quietSince v_sending_cells_n v_sending_cells_a) (rf := fun u => u.1) hx hb hr hlocks hK h1 h2 h3 h4 h5 h6
  have J60 : ∀ (v_emptyUp : Bool) (v_sending_head : Int32) (v_sending_size : Int32) (v_sender_control : Int32) (v_sender_character : Int32) (v_sender_beat : Int32) (v_sender_busy : Bool) (H : Heap) (locs : List Loc) (ls : Array Slot), F_X8_stepSender_60 v_lineControl v_sending_cells_n v_sending_cells_a v_emptyUp v_sending_head v_sending_size v_sender_control v_sender_character v_sender_beat v_sender_busy = some u0 → lv_has ls 1 [(0, .ref h_)] → va_P D vwCl [oX8 h_ h_divider h_received h_sending h_sender h_receiver h_modem h_lineIn h_lineOut v_wanted v_lineControl v_kept v_level v_rowsOn v_overrun v_emptyUp v_lateUp v_beats v_quietSince, oX5 h_sending h_sending_cells v_sending_head v_sending_size, aI h_sending_cells k_sending_cells v_sending_cells_n v_sending_cells_a, oX6 h_sender v_sender_control v_sender_character v_sender_beat v_sender_busy] H → va_D A [oX8 h_ h_divider h_received h_sending h_sender h_receiver h_modem h_lineIn h_lineOut v_wanted v_lineControl v_kept v_level v_rowsOn v_overrun v_emptyUp v_lateUp v_beats v_quietSince, oX5 h_sending h_sending_cells v_sending_head v_sending_size, aI h_sending_cells k_sending_cells v_sending_cells_n v_sending_cells_a, oX6 h_sender v_sender_control v_sender_character v_sender_beat v_sender_busy] → va_S A s.heap H locs → W p l e { frames := 4, cells := 0, slots := 0, locals := 88 } s m args below meth c H locs 0 0 (QI below D [(k_sending_cells, .int)] (wX8_stepSender k_sending_cells h_ h_divider h_received h_sending h_sender h_receiver h_modem h_lineIn h_lineOut h_sending_cells v_wanted v_lineControl v_kept v_level v_rowsOn v_overrun v_lateUp v_beats v_quietSince v_sending_cells_n v_sending_cells_a u0) (bI u0.1) args s A) (F0 m 60 ls []) := by
    intro v_emptyUp v_sending_head v_sending_size v_sender_control v_sender_character v_sender_beat v_sender_busy H locs ls hF hl hP hD hS
    unfold F_X8_stepSender_60 at hF
    refine lv_aload_n hx hb dX8_stepSender_60 rfl (lv_at hl 0 rfl) ?_
    refine va_get (D := D) (ci := 7) (v := .ref h_sender) (C := RX8) (T := TX8) (N := 18) hx hb hts i_X8 hown hK hP 0 rfl rfl 3 (Nat.le_of_ble_eq_true rfl) f_31 (fun _ h9 => h9) rfl dX8_stepSender_61 ?_
    obtain ⟨u1, hu1, hF⟩ := bd_el hF
    refine cVI (q0 := 3) (ci := 6) (As := []) (rest := []) (wr := [oX8 h_ h_divider h_received h_sending h_sender h_receiver h_modem h_lineIn h_lineOut v_wanted v_lineControl v_kept v_level v_rowsOn v_overrun v_emptyUp v_lateUp v_beats v_quietSince, oX5 h_sending h_sending_cells v_sending_head v_sending_size, aI h_sending_cells k_sending_cells v_sending_cells_n v_sending_cells_a]) (ws' := [oX8 h_ h_divider h_received h_sending h_sender h_receiver h_modem h_lineIn h_lineOut v_wanted v_lineControl v_kept v_level v_rowsOn v_overrun v_emptyUp v_lateUp v_beats v_quietSince, oX5 h_sending h_sending_cells v_sending_head v_sending_size, aI h_sending_cells k_sending_cells v_sending_cells_n v_sending_cells_a, oX6 h_sender v_sender_control v_sender_character u1.2.1 u1.2.2]) (rv := bI u1.1) ⟨hx, hb, hml, hown, hts⟩ (mX6_next D h_sender v_sender_control v_sender_character v_sender_beat v_sender_busy u1 hu1) (cwV 0 hts gX8_stepSender_X6_next rfl rfl rfl (by decide +kernel) ⟨Nat.le_of_ble_eq_true rfl, Nat.le_of_ble_eq_true rfl⟩) hK hP hD hS hA [] [3] [0, 1, 2] [0, 1, 2, 3] rfl rfl rfl rfl rfl rfl rfl rfl rfl hl.1 rfl (Nat.le_of_ble_eq_true rfl) rfl dX8_stepSender_64 ⟨Nat.le_refl _, Nat.le_refl _⟩ (fun H locs hP hD hS => ?_)
    exact hret (u1.1, v_emptyUp, v_sending_head, v_sending_size, v_sender_control, v_sender_character, u1.2.1, u1.2.2) (bI u1.1) _ _ 67 _ hP hD hS hF rfl dX8_stepSender_67
  unfold F_X8_stepSender at hF
  refine lv_aload_n hx hb dX8_stepSender_0 rfl (lv_at hl 0 rfl) ?_
  refine va_get (D := D) (ci := 7) (v := .ref h_sender) (C := RX8) (T := TX8) (N := 18) hx hb hts i_X8 hown hK hP 0 rfl rfl 3 (Nat.le_of_ble_eq_true rfl) f_31 (fun _ h9 => h9) rfl dX8_stepSender_1 ?_
  obtain ⟨u2, hu2, hF⟩ := bd_el hF
  refine cVI (q0 := 3) (ci := 6) (As := []) (rest := []) (wr := [oX8 h_ h_divider h_received h_sending h_sender h_receiver h_modem h_lineIn h_lineOut v_wanted v_lineControl v_kept v_level v_rowsOn v_overrun v_emptyUp v_lateUp v_beats v_quietSince, oX5 h_sending h_sending_cells v_sending_head v_sending_size, aI h_sending_cells k_sending_cells v_sending_cells_n v_sending_cells_a]) (ws' := [oX8 h_ h_divider h_received h_sending h_sender h_receiver h_modem h_lineIn h_lineOut v_wanted v_lineControl v_kept v_level v_rowsOn v_overrun v_emptyUp v_lateUp v_beats v_quietSince, oX5 h_sending h_sending_cells v_sending_head v_sending_size, aI h_sending_cells k_sending_cells v_sending_cells_n v_sending_cells_a, oX6 h_sender v_sender_control v_sender_character v_sender_beat v_sender_busy]) (rv := bI u2) ⟨hx, hb, hml, hown, hts⟩ (mX6_isBusy D h_sender v_sender_control v_sender_character v_sender_beat v_sender_busy u2 hu2) (cwV 0 hts gX8_stepSender_X6_isBusy rfl rfl rfl (by decide +kernel) ⟨Nat.le_of_ble_eq_true rfl, Nat.le_of_ble_eq_true rfl⟩) hK hP hD hS hA [] [3] [0, 1, 2] [0, 1, 2, 3] rfl rfl rfl rfl rfl rfl rfl rfl rfl hl.1 rfl (Nat.le_of_ble_eq_true rfl) rfl dX8_stepSender_4 ⟨Nat.le_refl _, Nat.le_refl _⟩ (fun H locs hP hD hS => ?_)
  refine lv_if_ne (tgt := 60) hx hb dX8_stepSender_7 (by decide) (fun c3 => ?_) (fun c3 => ?_)
  · replace hF := bt_t (bI_n0 c3) hF
    exact J60 v_emptyUp v_sending_head v_sending_size v_sender_control v_sender_character v_sender_beat v_sender_busy _ _ _ hF hl hP hD hS
  · replace hF := bt_f (bI_0 c3) hF
    refine lv_aload_n hx hb dX8_stepSender_10 rfl (lv_at hl 0 rfl) ?_
    refine va_get (D := D) (ci := 7) (v := .ref h_sending) (C := RX8) (T := TX8) (N := 18) hx hb hts i_X8 hown hK hP 0 rfl rfl 2 (Nat.le_of_ble_eq_true rfl) f_25 (fun _ h9 => h9) rfl dX8_stepSender_11 ?_
    obtain ⟨u4, hu4, hF⟩ := bd_el hF
    refine cVI (q0 := 1) (ci := 5) (As := []) (rest := []) (wr := [oX8 h_ h_divider h_received h_sending h_sender h_receiver h_modem h_lineIn h_lineOut v_wanted v_lineControl v_kept v_level v_rowsOn v_overrun v_emptyUp v_lateUp v_beats v_quietSince, aI h_sending_cells k_sending_cells v_sending_cells_n v_sending_cells_a, oX6 h_sender v_sender_control v_sender_character v_sender_beat v_sender_busy]) (ws' := [oX8 h_ h_divider h_received h_sending h_sender h_receiver h_modem h_lineIn h_lineOut v_wanted v_lineControl v_kept v_level v_rowsOn v_overrun v_emptyUp v_lateUp v_beats v_quietSince, oX5 h_sending h_sending_cells v_sending_head v_sending_size, aI h_sending_cells k_sending_cells v_sending_cells_n v_sending_cells_a, oX6 h_sender v_sender_control v_sender_character v_sender_beat v_sender_busy]) (rv := bI u4) ⟨hx, hb, hml, hown, hts⟩ (mX5_isEmpty D h_sending h_sending_cells v_sending_head v_sending_size u4 hu4) (cwV 0 hts gX8_stepSender_X5_isEmpty rfl rfl rfl (by decide +kernel) ⟨Nat.le_of_ble_eq_true rfl, Nat.le_of_ble_eq_true rfl⟩) hK hP hD hS hA [] [1] [0, 2, 3] [0, 3, 1, 2] rfl rfl rfl rfl rfl rfl rfl rfl rfl hl.1 rfl (Nat.le_of_ble_eq_true rfl) rfl dX8_stepSender_14 ⟨Nat.le_refl _, Nat.le_refl _⟩ (fun H locs hP hD hS => ?_)
    refine lv_if_ne (tgt := 60) hx hb dX8_stepSender_17 (by decide) (fun c5 => ?_) (fun c5 => ?_)
    · replace hF := bt_t (bI_n0 c5) hF
      exact J60 v_emptyUp v_sending_head v_sending_size v_sender_control v_sender_character v_sender_beat v_sender_busy _ _ _ hF hl hP hD hS
    · replace hF := bt_f (bI_0 c5) hF
      refine lv_aload_n hx hb dX8_stepSender_20 rfl (lv_at hl 0 rfl) ?_
      refine va_get (D := D) (ci := 7) (v := .ref h_sender) (C := RX8) (T := TX8) (N := 18) hx hb hts i_X8 hown hK hP 0 rfl rfl 3 (Nat.le_of_ble_eq_true rfl) f_31 (fun _ h9 => h9) rfl dX8_stepSender_21 ?_
      refine lv_aload_n hx hb dX8_stepSender_24 rfl (lv_at hl 0 rfl) ?_
      refine va_get (D := D) (ci := 7) (v := .int v_lineControl) (C := RX8) (T := TX8) (N := 18) hx hb hts i_X8 hown hK hP 0 rfl rfl 9 (Nat.le_of_ble_eq_true rfl) f_73 (fun _ h9 => h9) rfl dX8_stepSender_25 ?_
      refine lv_aload_n hx hb dX8_stepSender_28 rfl (lv_at hl 0 rfl) ?_
      refine va_get (D := D) (ci := 7) (v := .ref h_sending) (C := RX8) (T := TX8) (N := 18) hx hb hts i_X8 hown hK hP 0 rfl rfl 2 (Nat.le_of_ble_eq_true rfl) f_25 (fun _ h9 => h9) rfl dX8_stepSender_29 ?_
      obtain ⟨u6, hu6, hF⟩ := bd_el hF
      refine cVI (q0 := 1) (ci := 5) (As := []) (rest := [.int v_lineControl, .ref h_sender]) (wr := [oX8 h_ h_divider h_received h_sending h_sender h_receiver h_modem h_lineIn h_lineOut v_wanted v_lineControl v_kept v_level v_rowsOn v_overrun v_emptyUp v_lateUp v_beats v_quietSince, oX6 h_sender v_sender_control v_sender_character v_sender_beat v_sender_busy]) (ws' := [oX8 h_ h_divider h_received h_sending h_sender h_receiver h_modem h_lineIn h_lineOut v_wanted v_lineControl v_kept v_level v_rowsOn v_overrun v_emptyUp v_lateUp v_beats v_quietSince, oX5 h_sending h_sending_cells v_sending_head v_sending_size, aI h_sending_cells k_sending_cells v_sending_cells_n v_sending_cells_a, oX6 h_sender v_sender_control v_sender_character v_sender_beat v_sender_busy]) (rv := u6) ⟨hx, hb, hml, hown, hts⟩ (mX5_first D k_sending_cells h_sending h_sending_cells v_sending_head v_sending_size v_sending_cells_n v_sending_cells_a u6 hu6) (cwV 0 hts gX8_stepSender_X5_first rfl rfl rfl (by decide +kernel) ⟨Nat.le_of_ble_eq_true rfl, Nat.le_of_ble_eq_true rfl⟩) hK hP hD hS hA [0] [1, 2] [0, 3] [0, 2, 3, 1] rfl rfl rfl rfl rfl rfl rfl rfl rfl hl.1 rfl (Nat.le_of_ble_eq_true rfl) rfl dX8_stepSender_32 ⟨Nat.le_refl _, Nat.le_refl _⟩ (fun H locs hP hD hS => ?_)
      obtain ⟨u7, hu7, hF⟩ := bd_el hF
      refine cVV (q0 := 3) (ci := 6) (As := [.int v_lineControl, .int u6]) (rest := []) (wr := [oX8 h_ h_divider h_received h_sending h_sender h_receiver h_modem h_lineIn h_lineOut v_wanted v_lineControl v_kept v_level v_rowsOn v_overrun v_emptyUp v_lateUp v_beats v_quietSince, oX5 h_sending h_sending_cells v_sending_head v_sending_size, aI h_sending_cells k_sending_cells v_sending_cells_n v_sending_cells_a]) (ws' := [oX8 h_ h_divider h_received h_sending h_sender h_receiver h_modem h_lineIn h_lineOut v_wanted v_lineControl v_kept v_level v_rowsOn v_overrun v_emptyUp v_lateUp v_beats v_quietSince, oX5 h_sending h_sending_cells v_sending_head v_sending_size, aI h_sending_cells k_sending_cells v_sending_cells_n v_sending_cells_a, oX6 h_sender u7.1 u7.2.1 u7.2.2.1 u7.2.2.2]) ⟨hx, hb, hml, hown, hts⟩ (mX6_begin D h_sender v_sender_control v_sender_character v_sender_beat v_sender_busy v_lineControl u6 u7 hu7) (cwV 2 hts gX8_stepSender_X6_begin rfl rfl rfl (by decide +kernel) ⟨Nat.le_of_ble_eq_true rfl, Nat.le_of_ble_eq_true rfl⟩) hK hP hD hS hA [] [3] [0, 1, 2] [0, 1, 2, 3] rfl rfl rfl rfl rfl rfl rfl rfl rfl hl.1 rfl (Nat.le_of_ble_eq_true rfl) dX8_stepSender_35 ⟨Nat.le_refl _, Nat.le_refl _⟩ (fun H locs hP hD hS => ?_)
      refine lv_aload_n hx hb dX8_stepSender_38 rfl (lv_at hl 0 rfl) ?_
      refine va_get (D := D) (ci := 7) (v := .ref h_sending) (C := RX8) (T := TX8) (N := 18) hx hb hts i_X8 hown hK hP 0 rfl rfl 2 (Nat.le_of_ble_eq_true rfl) f_25 (fun _ h9 => h9) rfl dX8_stepSender_39 ?_
      obtain ⟨u8, hu8, hF⟩ := bd_el hF
      refine cVV (q0 := 1) (ci := 5) (As := []) (rest := []) (wr := [oX8 h_ h_divider h_received h_sending h_sender h_receiver h_modem h_lineIn h_lineOut v_wanted v_lineControl v_kept v_level v_rowsOn v_overrun v_emptyUp v_lateUp v_beats v_quietSince, oX6 h_sender u7.1 u7.2.1 u7.2.2.1 u7.2.2.2]) (ws' := [oX8 h_ h_divider h_received h_sending h_sender h_receiver h_modem h_lineIn h_lineOut v_wanted v_lineControl v_kept v_level v_rowsOn v_overrun v_emptyUp v_lateUp v_beats v_quietSince, oX5 h_sending h_sending_cells u8.1 u8.2, aI h_sending_cells k_sending_cells v_sending_cells_n v_sending_cells_a, oX6 h_sender u7.1 u7.2.1 u7.2.2.1 u7.2.2.2]) ⟨hx, hb, hml, hown, hts⟩ (mX5_dropFirst D k_sending_cells h_sending h_sending_cells v_sending_head v_sending_size v_sending_cells_n v_sending_cells_a u8 hu8) (cwV 0 hts gX8_stepSender_X5_dropFirst rfl rfl rfl (by decide +kernel) ⟨Nat.le_of_ble_eq_true rfl, Nat.le_of_ble_eq_true rfl⟩) hK hP hD hS hA [0] [1, 2] [0, 3] [0, 2, 3, 1] rfl rfl rfl rfl rfl rfl rfl rfl rfl hl.1 rfl (Nat.le_of_ble_eq_true rfl) dX8_stepSender_42 ⟨Nat.le_refl _, Nat.le_refl _⟩ (fun H locs hP hD hS => ?_)
      refine lv_aload_n hx hb dX8_stepSender_45 rfl (lv_at hl 0 rfl) ?_
      refine va_get (D := D) (ci := 7) (v := .ref h_sending) (C := RX8) (T := TX8) (N := 18) hx hb hts i_X8 hown hK hP 0 rfl rfl 2 (Nat.le_of_ble_eq_true rfl) f_25 (fun _ h9 => h9) rfl dX8_stepSender_46 ?_
      obtain ⟨u9, hu9, hF⟩ := bd_el hF
      refine cVI (q0 := 1) (ci := 5) (As := []) (rest := []) (wr := [oX8 h_ h_divider h_received h_sending h_sender h_receiver h_modem h_lineIn h_lineOut v_wanted v_lineControl v_kept v_level v_rowsOn v_overrun v_emptyUp v_lateUp v_beats v_quietSince, aI h_sending_cells k_sending_cells v_sending_cells_n v_sending_cells_a, oX6 h_sender u7.1 u7.2.1 u7.2.2.1 u7.2.2.2]) (ws' := [oX8 h_ h_divider h_received h_sending h_sender h_receiver h_modem h_lineIn h_lineOut v_wanted v_lineControl v_kept v_level v_rowsOn v_overrun v_emptyUp v_lateUp v_beats v_quietSince, oX5 h_sending h_sending_cells u8.1 u8.2, aI h_sending_cells k_sending_cells v_sending_cells_n v_sending_cells_a, oX6 h_sender u7.1 u7.2.1 u7.2.2.1 u7.2.2.2]) (rv := bI u9) ⟨hx, hb, hml, hown, hts⟩ (mX5_isEmpty D h_sending h_sending_cells u8.1 u8.2 u9 hu9) (cwV 0 hts gX8_stepSender_X5_isEmpty rfl rfl rfl (by decide +kernel) ⟨Nat.le_of_ble_eq_true rfl, Nat.le_of_ble_eq_true rfl⟩) hK hP hD hS hA [] [1] [0, 2, 3] [0, 3, 1, 2] rfl rfl rfl rfl rfl rfl rfl rfl rfl hl.1 rfl (Nat.le_of_ble_eq_true rfl) rfl dX8_stepSender_49 ⟨Nat.le_refl _, Nat.le_refl _⟩ (fun H locs hP hD hS => ?_)
      refine lv_if_eq (tgt := 60) hx hb dX8_stepSender_52 (by decide) (fun c10 => ?_) (fun c10 => ?_)
      · replace hF := bt_f (bI_0 c10) hF
        exact J60 v_emptyUp u8.1 u8.2 u7.1 u7.2.1 u7.2.2.1 u7.2.2.2 _ _ _ hF hl hP hD hS
      · replace hF := bt_t (bI_n0 c10) hF
        refine lv_aload_n hx hb dX8_stepSender_55 rfl (lv_at hl 0 rfl) ?_
        refine lv_iconst (v := 1) hx hb dX8_stepSender_56 (by decide) ?_
        refine pf (ci := 7) (v := .int (bI true)) (ty := .boolean) (C := RX8) (T := TX8) (N := 18) (ws' := [oX8 h_ h_divider h_received h_sending h_sender h_receiver h_modem h_lineIn h_lineOut v_wanted v_lineControl v_kept v_level v_rowsOn v_overrun true v_lateUp v_beats v_quietSince, oX5 h_sending h_sending_cells u8.1 u8.2, aI h_sending_cells k_sending_cells v_sending_cells_n v_sending_cells_a, oX6 h_sender u7.1 u7.2.1 u7.2.2.1 u7.2.2.2]) hx hb hts i_X8 tyX8_ok nmX8 hown hK hP hD hS 0 rfl rfl 14 (Nat.le_of_ble_eq_true rfl) f_179 rfl rfl (by decide +kernel) (nar_bI true) (fit_bI true) (Nat.le_of_ble_eq_true rfl) rfl dX8_stepSender_57 (fun H locs hP hD hS => ?_)
        exact J60 true u8.1 u8.2 u7.1 u7.2.1 u7.2.2.1 u7.2.2.2 _ _ _ hF hl hP hD hS
def F_X8_rowRoom  (v_rowsOn : Bool) : Option (Int32) := bt v_rowsOn (some (16 : Int32)) (some (1 : Int32))
def wX8_rowRoom (h_ : Nat) (h_divider : Nat) (h_received : Nat) (h_sending : Nat) (h_sender : Nat) (h_receiver : Nat) (h_modem : Nat) (h_lineIn : Nat) (h_lineOut : Nat) (v_wanted : Int32) (v_lineControl : Int32) (v_kept : Int32) (v_level : Int32) (v_rowsOn : Bool) (v_overrun : Bool) (v_emptyUp : Bool) (v_lateUp : Bool) (v_beats : Int32) (v_quietSince : Int32) (_u : Int32) : va_W := [oX8 h_ h_divider h_received h_sending h_sender h_receiver h_modem h_lineIn h_lineOut v_wanted v_lineControl v_kept v_level v_rowsOn v_overrun v_emptyUp v_lateUp v_beats v_quietSince]
set_option maxHeartbeats 4000000 in
set_option maxRecDepth 100000 in
theorem mX8_rowRoom {l : Launch} (D : va_G) (h_ : Nat) (h_divider : Nat) (h_received : Nat) (h_sending : Nat) (h_sender : Nat) (h_receiver : Nat) (h_modem : Nat) (h_lineIn : Nat) (h_lineOut : Nat) (v_wanted : Int32) (v_lineControl : Int32) (v_kept : Int32) (v_level : Int32) (v_rowsOn : Bool) (v_overrun : Bool) (v_emptyUp : Bool) (v_lateUp : Bool) (v_beats : Int32) (v_quietSince : Int32) (u0 : Int32) (hF : F_X8_rowRoom v_rowsOn = some u0) : MI l yX8_rowRoom wsX8_rowRoom { frames := 0, cells := 0, slots := 0, locals := 0 } D [] [.ref h_] [oX8 h_ h_divider h_received h_sending h_sender h_receiver h_modem h_lineIn h_lineOut v_wanted v_lineControl v_kept v_level v_rowsOn v_overrun v_emptyUp v_lateUp v_beats v_quietSince] (wX8_rowRoom h_ h_divider h_received h_sending h_sender h_receiver h_modem h_lineIn h_lineOut v_wanted v_lineControl v_kept v_level v_rowsOn v_overrun v_emptyUp v_lateUp v_beats v_quietSince u0) (u0) := by
  refine MI.ofW (cc := cX8_rowRoom) (maxL := 1) (ret := (some .int)) (lv := [(0, .ref h_)]) (by decide +kernel) rfl (Nat.le_of_ble_eq_true rfl) rfl ?_
  intro p e s m args below meth c A ls hx hb hr hml hts hown hlocks hA hK hP hD hS hl
  replace hown : s.vm.findClass RX8 = some m.cls := hown
  have i_X8 : ∀ w ∈ wsX80, w ∈ wsX8_rowRoom := by decide +kernel
  have f_172 := hts (.fieldLink RX8 172 "SerialPort" "rowsOn" "Z") (by decide +kernel)
  have hret : ∀ (u : Int32) (v : Int32) (H : Heap) (locs : List Loc) (pc : Nat) (ls : Array Slot), va_P D vwCl (wX8_rowRoom h_ h_divider h_received h_sending h_sender h_receiver h_modem h_lineIn h_lineOut v_wanted v_lineControl v_kept v_level v_rowsOn v_overrun v_emptyUp v_lateUp v_beats v_quietSince u) H → va_D A (wX8_rowRoom h_ h_divider h_received h_sending h_sender h_receiver h_modem h_lineIn h_lineOut v_wanted v_lineControl v_kept v_level v_rowsOn v_overrun v_emptyUp v_lateUp v_beats v_quietSince u) → va_S A s.heap H locs → some u = some u0 → v = u → decode cX8_rowRoom pc = .ok (.ireturn, 1) → W p l e { frames := 0, cells := 0, slots := 0, locals := 0 } s m args below meth c H locs 0 0 (QI below D [] (wX8_rowRoom h_ h_divider h_received h_sending h_sender h_receiver h_modem h_lineIn h_lineOut v_wanted v_lineControl v_kept v_level v_rowsOn v_overrun v_emptyUp v_lateUp v_beats v_quietSince u0) (u0) args s A) (F0 m pc ls [.int v]) := fun u v H locs pc ls h1 h2 h3 h4 h5 h6 => rI (wf := wX8_rowRoom h_ h_divider h_received h_sending h_sender h_receiver h_modem h_lineIn h_lineOut v_wanted v_lineControl v_kept v_level v_rowsOn v_overrun v_emptyUp v_lateUp v_beats v_quietSince) (rf := fun u => u) hx hb hr hlocks hK h1 h2 h3 h4 h5 h6
  unfold F_X8_rowRoom at hF
  refine lv_aload_n hx hb dX8_rowRoom_0 rfl (lv_at hl 0 rfl) ?_
  refine va_get (D := D) (ci := 7) (v := .int (bI v_rowsOn)) (C := RX8) (T := TX8) (N := 18) hx hb hts i_X8 hown hK hP 0 rfl rfl 12 (Nat.le_of_ble_eq_true rfl) f_172 (fun _ h9 => h9) rfl dX8_rowRoom_1 ?_
  refine lv_if_eq (tgt := 12) hx hb dX8_rowRoom_4 (by decide) (fun c1 => ?_) (fun c1 => ?_)
  · replace hF := bt_f (bI_0 c1) hF
    refine lv_iconst (v := 1) hx hb dX8_rowRoom_12 (by decide) ?_
    exact hret (1 : Int32) 1 _ _ 13 _ hP hD hS hF rfl dX8_rowRoom_13
  · replace hF := bt_t (bI_n0 c1) hF
    refine lv_bipush (v := 16) hx hb dX8_rowRoom_7 (by decide) ?_
    refine lv_goto (tgt := 13) hx hb dX8_rowRoom_9 (by decide) ?_
    exact hret (16 : Int32) 16 _ _ 13 _ hP hD hS hF rfl dX8_rowRoom_13
def F_X8_addReceived (p1 : Int32) (v_rowsOn : Bool) (v_overrun : Bool) (v_beats : Int32) (v_quietSince : Int32) (v_received_head : Int32) (v_received_size : Int32) (v_received_cells_n : Nat) (v_received_cells_a : Nat → Int32) : Option (Bool × Int32 × Int32 × (Nat → Int32)) := bd (F_X5_size v_received_size) (fun u1 => bd (F_X8_rowRoom v_rowsOn) (fun u2 => if u2 ≤ u1 then (bt v_rowsOn (some (true, v_beats, v_received_size, v_received_cells_a)) (bd (F_X5_setFirst p1 v_received_head v_received_size v_received_cells_n v_received_cells_a) (fun u5 => some (true, v_beats, v_received_size, u5)))) else (bd (F_X5_add p1 v_received_head v_received_size v_received_cells_n v_received_cells_a) (fun u6 => some (v_overrun, v_beats, u6.1, u6.2)))))
def wX8_addReceived (k_received_cells : ClassId) (h_ : Nat) (h_divider : Nat) (h_received : Nat) (h_sending : Nat) (h_sender : Nat) (h_receiver : Nat) (h_modem : Nat) (h_lineIn : Nat) (h_lineOut : Nat) (h_received_cells : Nat) (v_wanted : Int32) (v_lineControl : Int32) (v_kept : Int32) (v_level : Int32) (v_rowsOn : Bool) (v_emptyUp : Bool) (v_lateUp : Bool) (v_beats : Int32) (v_received_head : Int32) (v_received_cells_n : Nat) (u : Bool × Int32 × Int32 × (Nat → Int32)) : va_W := [oX8 h_ h_divider h_received h_sending h_sender h_receiver h_modem h_lineIn h_lineOut v_wanted v_lineControl v_kept v_level v_rowsOn u.1 v_emptyUp v_lateUp v_beats u.2.1, oX5 h_received h_received_cells v_received_head u.2.2.1, aI h_received_cells k_received_cells v_received_cells_n u.2.2.2]
set_option maxHeartbeats 4000000 in
set_option maxRecDepth 100000 in
theorem mX8_addReceived {l : Launch} (D : va_G) (k_received_cells : ClassId) (h_ : Nat) (h_divider : Nat) (h_received : Nat) (h_sending : Nat) (h_sender : Nat) (h_receiver : Nat) (h_modem : Nat) (h_lineIn : Nat) (h_lineOut : Nat) (h_received_cells : Nat) (v_wanted : Int32) (v_lineControl : Int32) (v_kept : Int32) (v_level : Int32) (v_rowsOn : Bool) (v_overrun : Bool) (v_emptyUp : Bool) (v_lateUp : Bool) (v_beats : Int32) (v_quietSince : Int32) (v_received_head : Int32) (v_received_size : Int32) (v_received_cells_n : Nat) (v_received_cells_a : Nat → Int32) (p1 : Int32) (u0 : Bool × Int32 × Int32 × (Nat → Int32)) (hF : F_X8_addReceived p1 v_rowsOn v_overrun v_beats v_quietSince v_received_head v_received_size v_received_cells_n v_received_cells_a = some u0) : MV l yX8_addReceived wsX8_addReceived { frames := 3, cells := 0, slots := 0, locals := 66 } D [(k_received_cells, .int)] [.ref h_, .int p1] [oX8 h_ h_divider h_received h_sending h_sender h_receiver h_modem h_lineIn h_lineOut v_wanted v_lineControl v_kept v_level v_rowsOn v_overrun v_emptyUp v_lateUp v_beats v_quietSince, oX5 h_received h_received_cells v_received_head v_received_size, aI h_received_cells k_received_cells v_received_cells_n v_received_cells_a] (wX8_addReceived k_received_cells h_ h_divider h_received h_sending h_sender h_receiver h_modem h_lineIn h_lineOut h_received_cells v_wanted v_lineControl v_kept v_level v_rowsOn v_emptyUp v_lateUp v_beats v_received_head v_received_cells_n u0) := by
  refine MV.ofW (cc := cX8_addReceived) (maxL := 2) (ret := none) (lv := [(0, .ref h_), (1, .int p1)]) (by decide +kernel) rfl (Nat.le_of_ble_eq_true rfl) rfl ?_
  intro p e s m args below meth c A ls hx hb hr hml hts hown hlocks hA hK hP hD hS hl
  replace hown : s.vm.findClass RX8 = some m.cls := hown
  have i_X8 : ∀ w ∈ wsX80, w ∈ wsX8_addReceived := by decide +kernel
  have f_21 := hts (.fieldLink RX8 21 "SerialPort" "received" "LSerialPort$Ring;") (by decide +kernel)
  have f_127 := hts (.fieldLink RX8 127 "SerialPort" "beats" "I") (by decide +kernel)
  have f_172 := hts (.fieldLink RX8 172 "SerialPort" "rowsOn" "Z") (by decide +kernel)
  have f_176 := hts (.fieldLink RX8 176 "SerialPort" "overrun" "Z") (by decide +kernel)
  have f_185 := hts (.fieldLink RX8 185 "SerialPort" "quietSince" "I") (by decide +kernel)
  have hret : ∀ (u : Bool × Int32 × Int32 × (Nat → Int32)) (H : Heap) (locs : List Loc) (pc : Nat) (ls : Array Slot), va_P D vwCl (wX8_addReceived k_received_cells h_ h_divider h_received h_sending h_sender h_receiver h_modem h_lineIn h_lineOut h_received_cells v_wanted v_lineControl v_kept v_level v_rowsOn v_emptyUp v_lateUp v_beats v_received_head v_received_cells_n u) H → va_D A (wX8_addReceived k_received_cells h_ h_divider h_received h_sending h_sender h_receiver h_modem h_lineIn h_lineOut h_received_cells v_wanted v_lineControl v_kept v_level v_rowsOn v_emptyUp v_lateUp v_beats v_received_head v_received_cells_n u) → va_S A s.heap H locs → some u = some u0 → decode cX8_addReceived pc = .ok (.return_, 1) → W p l e { frames := 3, cells := 0, slots := 0, locals := 66 } s m args below meth c H locs 0 0 (QV below D [(k_received_cells, .int)] (wX8_addReceived k_received_cells h_ h_divider h_received h_sending h_sender h_receiver h_modem h_lineIn h_lineOut h_received_cells v_wanted v_lineControl v_kept v_level v_rowsOn v_emptyUp v_lateUp v_beats v_received_head v_received_cells_n u0) args s A) (F0 m pc ls []) := fun u H locs pc ls h1 h2 h3 h4 h5 => rV (wf := wX8_addReceived k_received_cells h_ h_divider h_received h_sending h_sender h_receiver h_modem h_lineIn h_lineOut h_received_cells v_wanted v_lineControl v_kept v_level v_rowsOn v_emptyUp v_lateUp v_beats v_received_head v_received_cells_n) hx hb hr hlocks hK h1 h2 h3 h4 h5
  unfold F_X8_addReceived at hF
  refine lv_aload_n hx hb dX8_addReceived_0 rfl (lv_at hl 0 rfl) ?_
  refine va_get (D := D) (ci := 7) (v := .ref h_received) (C := RX8) (T := TX8) (N := 18) hx hb hts i_X8 hown hK hP 0 rfl rfl 1 (Nat.le_of_ble_eq_true rfl) f_21 (fun _ h9 => h9) rfl dX8_addReceived_1 ?_
  obtain ⟨u1, hu1, hF⟩ := bd_el hF
  refine cVI (q0 := 1) (ci := 5) (As := []) (rest := []) (wr := [oX8 h_ h_divider h_received h_sending h_sender h_receiver h_modem h_lineIn h_lineOut v_wanted v_lineControl v_kept v_level v_rowsOn v_overrun v_emptyUp v_lateUp v_beats v_quietSince, aI h_received_cells k_received_cells v_received_cells_n v_received_cells_a]) (ws' := [oX8 h_ h_divider h_received h_sending h_sender h_receiver h_modem h_lineIn h_lineOut v_wanted v_lineControl v_kept v_level v_rowsOn v_overrun v_emptyUp v_lateUp v_beats v_quietSince, oX5 h_received h_received_cells v_received_head v_received_size, aI h_received_cells k_received_cells v_received_cells_n v_received_cells_a]) (rv := u1) ⟨hx, hb, hml, hown, hts⟩ (mX5_size D h_received h_received_cells v_received_head v_received_size u1 hu1) (cwV 0 hts gX8_addReceived_X5_size rfl rfl rfl (by decide +kernel) ⟨Nat.le_of_ble_eq_true rfl, Nat.le_of_ble_eq_true rfl⟩) hK hP hD hS hA [] [1] [0, 2] [0, 2, 1] rfl rfl rfl rfl rfl rfl rfl rfl rfl hl.1 rfl (Nat.le_of_ble_eq_true rfl) rfl dX8_addReceived_4 ⟨Nat.le_refl _, Nat.le_refl _⟩ (fun H locs hP hD hS => ?_)
  refine lv_aload_n hx hb dX8_addReceived_7 rfl (lv_at hl 0 rfl) ?_
  obtain ⟨u2, hu2, hF⟩ := bd_el hF
  refine cVI (q0 := 0) (ci := 7) (As := []) (rest := [.int u1]) (wr := [oX5 h_received h_received_cells v_received_head v_received_size, aI h_received_cells k_received_cells v_received_cells_n v_received_cells_a]) (ws' := [oX8 h_ h_divider h_received h_sending h_sender h_receiver h_modem h_lineIn h_lineOut v_wanted v_lineControl v_kept v_level v_rowsOn v_overrun v_emptyUp v_lateUp v_beats v_quietSince, oX5 h_received h_received_cells v_received_head v_received_size, aI h_received_cells k_received_cells v_received_cells_n v_received_cells_a]) (rv := u2) ⟨hx, hb, hml, hown, hts⟩ (mX8_rowRoom D h_ h_divider h_received h_sending h_sender h_receiver h_modem h_lineIn h_lineOut v_wanted v_lineControl v_kept v_level v_rowsOn v_overrun v_emptyUp v_lateUp v_beats v_quietSince u2 hu2) (cwV 0 hts gX8_addReceived_X8_rowRoom rfl rfl rfl (by decide +kernel) ⟨Nat.le_of_ble_eq_true rfl, Nat.le_of_ble_eq_true rfl⟩) hK hP hD hS hA [] [0] [1, 2] [2, 0, 1] rfl rfl rfl rfl rfl rfl rfl rfl rfl hl.1 rfl (Nat.le_of_ble_eq_true rfl) rfl dX8_addReceived_8 ⟨Nat.le_refl _, Nat.le_refl _⟩ (fun H locs hP hD hS => ?_)
  refine lv_icmp_ge (tgt := 25) hx hb dX8_addReceived_11 (by decide) (fun c3 => ?_) (fun c3 => ?_)
  · replace hF := it_t c3 hF
    refine lv_aload_n hx hb dX8_addReceived_25 rfl (lv_at hl 0 rfl) ?_
    refine lv_iconst (v := 1) hx hb dX8_addReceived_26 (by decide) ?_
    refine pf (ci := 7) (v := .int (bI true)) (ty := .boolean) (C := RX8) (T := TX8) (N := 18) (ws' := [oX8 h_ h_divider h_received h_sending h_sender h_receiver h_modem h_lineIn h_lineOut v_wanted v_lineControl v_kept v_level v_rowsOn true v_emptyUp v_lateUp v_beats v_quietSince, oX5 h_received h_received_cells v_received_head v_received_size, aI h_received_cells k_received_cells v_received_cells_n v_received_cells_a]) hx hb hts i_X8 tyX8_ok nmX8 hown hK hP hD hS 0 rfl rfl 13 (Nat.le_of_ble_eq_true rfl) f_176 rfl rfl (by decide +kernel) (nar_bI true) (fit_bI true) (Nat.le_of_ble_eq_true rfl) rfl dX8_addReceived_27 (fun H locs hP hD hS => ?_)
    refine lv_aload_n hx hb dX8_addReceived_30 rfl (lv_at hl 0 rfl) ?_
    refine va_get (D := D) (ci := 7) (v := .int (bI v_rowsOn)) (C := RX8) (T := TX8) (N := 18) hx hb hts i_X8 hown hK hP 0 rfl rfl 12 (Nat.le_of_ble_eq_true rfl) f_172 (fun _ h9 => h9) rfl dX8_addReceived_31 ?_
    refine lv_if_ne (tgt := 45) hx hb dX8_addReceived_34 (by decide) (fun c4 => ?_) (fun c4 => ?_)
    · replace hF := bt_t (bI_n0 c4) hF
      refine lv_aload_n hx hb dX8_addReceived_45 rfl (lv_at hl 0 rfl) ?_
      refine lv_aload_n hx hb dX8_addReceived_46 rfl (lv_at hl 0 rfl) ?_
      refine va_get (D := D) (ci := 7) (v := .int v_beats) (C := RX8) (T := TX8) (N := 18) hx hb hts i_X8 hown hK hP 0 rfl rfl 16 (Nat.le_of_ble_eq_true rfl) f_127 (fun _ h9 => h9) rfl dX8_addReceived_47 ?_
      refine pf (ci := 7) (v := .int v_beats) (ty := .int) (C := RX8) (T := TX8) (N := 18) (ws' := [oX8 h_ h_divider h_received h_sending h_sender h_receiver h_modem h_lineIn h_lineOut v_wanted v_lineControl v_kept v_level v_rowsOn true v_emptyUp v_lateUp v_beats v_beats, oX5 h_received h_received_cells v_received_head v_received_size, aI h_received_cells k_received_cells v_received_cells_n v_received_cells_a]) hx hb hts i_X8 tyX8_ok nmX8 hown hK hP hD hS 0 rfl rfl 17 (Nat.le_of_ble_eq_true rfl) f_185 rfl rfl (by decide +kernel) rfl rfl (Nat.le_of_ble_eq_true rfl) rfl dX8_addReceived_50 (fun H locs hP hD hS => ?_)
      exact hret (true, v_beats, v_received_size, v_received_cells_a) _ _ 53 _ hP hD hS hF dX8_addReceived_53
    · replace hF := bt_f (bI_0 c4) hF
      refine lv_aload_n hx hb dX8_addReceived_37 rfl (lv_at hl 0 rfl) ?_
      refine va_get (D := D) (ci := 7) (v := .ref h_received) (C := RX8) (T := TX8) (N := 18) hx hb hts i_X8 hown hK hP 0 rfl rfl 1 (Nat.le_of_ble_eq_true rfl) f_21 (fun _ h9 => h9) rfl dX8_addReceived_38 ?_
      refine lv_iload_n hx hb dX8_addReceived_41 rfl (lv_at hl 1 rfl) ?_
      obtain ⟨u5, hu5, hF⟩ := bd_el hF
      refine cVV (q0 := 1) (ci := 5) (As := [.int p1]) (rest := []) (wr := [oX8 h_ h_divider h_received h_sending h_sender h_receiver h_modem h_lineIn h_lineOut v_wanted v_lineControl v_kept v_level v_rowsOn true v_emptyUp v_lateUp v_beats v_quietSince]) (ws' := [oX8 h_ h_divider h_received h_sending h_sender h_receiver h_modem h_lineIn h_lineOut v_wanted v_lineControl v_kept v_level v_rowsOn true v_emptyUp v_lateUp v_beats v_quietSince, oX5 h_received h_received_cells v_received_head v_received_size, aI h_received_cells k_received_cells v_received_cells_n u5]) ⟨hx, hb, hml, hown, hts⟩ (mX5_setFirst D k_received_cells h_received h_received_cells v_received_head v_received_size v_received_cells_n v_received_cells_a p1 u5 hu5) (cwV 1 hts gX8_addReceived_X5_setFirst rfl rfl rfl (by decide +kernel) ⟨Nat.le_of_ble_eq_true rfl, Nat.le_of_ble_eq_true rfl⟩) hK hP hD hS hA [0] [1, 2] [0] [0, 1, 2] rfl rfl rfl rfl rfl rfl rfl rfl rfl hl.1 rfl (Nat.le_of_ble_eq_true rfl) dX8_addReceived_42 ⟨Nat.le_refl _, Nat.le_refl _⟩ (fun H locs hP hD hS => ?_)
      refine lv_aload_n hx hb dX8_addReceived_45 rfl (lv_at hl 0 rfl) ?_
      refine lv_aload_n hx hb dX8_addReceived_46 rfl (lv_at hl 0 rfl) ?_
      refine va_get (D := D) (ci := 7) (v := .int v_beats) (C := RX8) (T := TX8) (N := 18) hx hb hts i_X8 hown hK hP 0 rfl rfl 16 (Nat.le_of_ble_eq_true rfl) f_127 (fun _ h9 => h9) rfl dX8_addReceived_47 ?_
      refine pf (ci := 7) (v := .int v_beats) (ty := .int) (C := RX8) (T := TX8) (N := 18) (ws' := [oX8 h_ h_divider h_received h_sending h_sender h_receiver h_modem h_lineIn h_lineOut v_wanted v_lineControl v_kept v_level v_rowsOn true v_emptyUp v_lateUp v_beats v_beats, oX5 h_received h_received_cells v_received_head v_received_size, aI h_received_cells k_received_cells v_received_cells_n u5]) hx hb hts i_X8 tyX8_ok nmX8 hown hK hP hD hS 0 rfl rfl 17 (Nat.le_of_ble_eq_true rfl) f_185 rfl rfl (by decide +kernel) rfl rfl (Nat.le_of_ble_eq_true rfl) rfl dX8_addReceived_50 (fun H locs hP hD hS => ?_)
      exact hret (true, v_beats, v_received_size, u5) _ _ 53 _ hP hD hS hF dX8_addReceived_53
  · replace hF := it_f c3 hF
    refine lv_aload_n hx hb dX8_addReceived_14 rfl (lv_at hl 0 rfl) ?_
    refine va_get (D := D) (ci := 7) (v := .ref h_received) (C := RX8) (T := TX8) (N := 18) hx hb hts i_X8 hown hK hP 0 rfl rfl 1 (Nat.le_of_ble_eq_true rfl) f_21 (fun _ h9 => h9) rfl dX8_addReceived_15 ?_
    refine lv_iload_n hx hb dX8_addReceived_18 rfl (lv_at hl 1 rfl) ?_
    obtain ⟨u6, hu6, hF⟩ := bd_el hF
    refine cVV (q0 := 1) (ci := 5) (As := [.int p1]) (rest := []) (wr := [oX8 h_ h_divider h_received h_sending h_sender h_receiver h_modem h_lineIn h_lineOut v_wanted v_lineControl v_kept v_level v_rowsOn v_overrun v_emptyUp v_lateUp v_beats v_quietSince]) (ws' := [oX8 h_ h_divider h_received h_sending h_sender h_receiver h_modem h_lineIn h_lineOut v_wanted v_lineControl v_kept v_level v_rowsOn v_overrun v_emptyUp v_lateUp v_beats v_quietSince, oX5 h_received h_received_cells v_received_head u6.1, aI h_received_cells k_received_cells v_received_cells_n u6.2]) ⟨hx, hb, hml, hown, hts⟩ (mX5_add D k_received_cells h_received h_received_cells v_received_head v_received_size v_received_cells_n v_received_cells_a p1 u6 hu6) (cwV 1 hts gX8_addReceived_X5_add rfl rfl rfl (by decide +kernel) ⟨Nat.le_of_ble_eq_true rfl, Nat.le_of_ble_eq_true rfl⟩) hK hP hD hS hA [0] [1, 2] [0] [0, 1, 2] rfl rfl rfl rfl rfl rfl rfl rfl rfl hl.1 rfl (Nat.le_of_ble_eq_true rfl) dX8_addReceived_19 ⟨Nat.le_refl _, Nat.le_refl _⟩ (fun H locs hP hD hS => ?_)
    refine lv_goto (tgt := 45) hx hb dX8_addReceived_22 (by decide) ?_
    refine lv_aload_n hx hb dX8_addReceived_45 rfl (lv_at hl 0 rfl) ?_
    refine lv_aload_n hx hb dX8_addReceived_46 rfl (lv_at hl 0 rfl) ?_
    refine va_get (D := D) (ci := 7) (v := .int v_beats) (C := RX8) (T := TX8) (N := 18) hx hb hts i_X8 hown hK hP 0 rfl rfl 16 (Nat.le_of_ble_eq_true rfl) f_127 (fun _ h9 => h9) rfl dX8_addReceived_47 ?_
    refine pf (ci := 7) (v := .int v_beats) (ty := .int) (C := RX8) (T := TX8) (N := 18) (ws' := [oX8 h_ h_divider h_received h_sending h_sender h_receiver h_modem h_lineIn h_lineOut v_wanted v_lineControl v_kept v_level v_rowsOn v_overrun v_emptyUp v_lateUp v_beats v_beats, oX5 h_received h_received_cells v_received_head u6.1, aI h_received_cells k_received_cells v_received_cells_n u6.2]) hx hb hts i_X8 tyX8_ok nmX8 hown hK hP hD hS 0 rfl rfl 17 (Nat.le_of_ble_eq_true rfl) f_185 rfl rfl (by decide +kernel) rfl rfl (Nat.le_of_ble_eq_true rfl) rfl dX8_addReceived_50 (fun H locs hP hD hS => ?_)
    exact hret (v_overrun, v_beats, u6.1, u6.2) _ _ 53 _ hP hD hS hF dX8_addReceived_53
def F_X8_stepLate  (v_lineControl : Int32) (v_rowsOn : Bool) (v_lateUp : Bool) (v_beats : Int32) (v_quietSince : Int32) (v_received_size : Int32) : Option (Bool) := bt v_rowsOn (bd (F_X5_isEmpty v_received_size) (fun u2 => bt u2 (some v_lateUp) (bd (F_X7_beats v_lineControl) (fun u4 => if (v_beats - v_quietSince) < (4 * u4) then (some v_lateUp) else (some true))))) (some v_lateUp)
def wX8_stepLate (h_ : Nat) (h_divider : Nat) (h_received : Nat) (h_sending : Nat) (h_sender : Nat) (h_receiver : Nat) (h_modem : Nat) (h_lineIn : Nat) (h_lineOut : Nat) (h_received_cells : Nat) (v_wanted : Int32) (v_lineControl : Int32) (v_kept : Int32) (v_level : Int32) (v_rowsOn : Bool) (v_overrun : Bool) (v_emptyUp : Bool) (v_beats : Int32) (v_quietSince : Int32) (v_received_head : Int32) (v_received_size : Int32) (u : Bool) : va_W := [oX8 h_ h_divider h_received h_sending h_sender h_receiver h_modem h_lineIn h_lineOut v_wanted v_lineControl v_kept v_level v_rowsOn v_overrun v_emptyUp u v_beats v_quietSince, oX5 h_received h_received_cells v_received_head v_received_size]
set_option maxHeartbeats 4000000 in
set_option maxRecDepth 100000 in
theorem mX8_stepLate {l : Launch} (D : va_G) (h_ : Nat) (h_divider : Nat) (h_received : Nat) (h_sending : Nat) (h_sender : Nat) (h_receiver : Nat) (h_modem : Nat) (h_lineIn : Nat) (h_lineOut : Nat) (h_received_cells : Nat) (v_wanted : Int32) (v_lineControl : Int32) (v_kept : Int32) (v_level : Int32) (v_rowsOn : Bool) (v_overrun : Bool) (v_emptyUp : Bool) (v_lateUp : Bool) (v_beats : Int32) (v_quietSince : Int32) (v_received_head : Int32) (v_received_size : Int32) (u0 : Bool) (hF : F_X8_stepLate v_lineControl v_rowsOn v_lateUp v_beats v_quietSince v_received_size = some u0) : MV l yX8_stepLate wsX8_stepLate { frames := 3, cells := 0, slots := 0, locals := 60 } D [] [.ref h_] [oX8 h_ h_divider h_received h_sending h_sender h_receiver h_modem h_lineIn h_lineOut v_wanted v_lineControl v_kept v_level v_rowsOn v_overrun v_emptyUp v_lateUp v_beats v_quietSince, oX5 h_received h_received_cells v_received_head v_received_size] (wX8_stepLate h_ h_divider h_received h_sending h_sender h_receiver h_modem h_lineIn h_lineOut h_received_cells v_wanted v_lineControl v_kept v_level v_rowsOn v_overrun v_emptyUp v_beats v_quietSince v_received_head v_received_size u0) := by
  refine MV.ofW (cc := cX8_stepLate) (maxL := 1) (ret := none) (lv := [(0, .ref h_)]) (by decide +kernel) rfl (Nat.le_of_ble_eq_true rfl) rfl ?_
  intro p e s m args below meth c A ls hx hb hr hml hts hown hlocks hA hK hP hD hS hl
  replace hown : s.vm.findClass RX8 = some m.cls := hown
  have i_X8 : ∀ w ∈ wsX80, w ∈ wsX8_stepLate := by decide +kernel
  have f_21 := hts (.fieldLink RX8 21 "SerialPort" "received" "LSerialPort$Ring;") (by decide +kernel)
  have f_73 := hts (.fieldLink RX8 73 "SerialPort" "lineControl" "I") (by decide +kernel)
  have f_127 := hts (.fieldLink RX8 127 "SerialPort" "beats" "I") (by decide +kernel)
  have f_172 := hts (.fieldLink RX8 172 "SerialPort" "rowsOn" "Z") (by decide +kernel)
  have f_182 := hts (.fieldLink RX8 182 "SerialPort" "lateUp" "Z") (by decide +kernel)
  have f_185 := hts (.fieldLink RX8 185 "SerialPort" "quietSince" "I") (by decide +kernel)
  have hret : ∀ (u : Bool) (H : Heap) (locs : List Loc) (pc : Nat) (ls : Array Slot), va_P D vwCl (wX8_stepLate h_ h_divider h_received h_sending h_sender h_receiver h_modem h_lineIn h_lineOut h_received_cells v_wanted v_lineControl v_kept v_level v_rowsOn v_overrun v_emptyUp v_beats v_quietSince v_received_head v_received_size u) H → va_D A (wX8_stepLate h_ h_divider h_received h_sending h_sender h_receiver h_modem h_lineIn h_lineOut h_received_cells v_wanted v_lineControl v_kept v_level v_rowsOn v_overrun v_emptyUp v_beats v_quietSince v_received_head v_received_size u) → va_S A s.heap H locs → some u = some u0 → decode cX8_stepLate pc = .ok (.return_, 1) → W p l e { frames := 3, cells := 0, slots := 0, locals := 60 } s m args below meth c H locs 0 0 (QV below D [] (wX8_stepLate h_ h_divider h_received h_sending h_sender h_receiver h_modem h_lineIn h_lineOut h_received_cells v_wanted v_lineControl v_kept v_level v_rowsOn v_overrun v_emptyUp v_beats v_quietSince v_received_head v_received_size u0) args s A) (F0 m pc ls []) := fun u H locs pc ls h1 h2 h3 h4 h5 => rV (wf := wX8_stepLate h_ h_divider h_received h_sending h_sender h_receiver h_modem h_lineIn h_lineOut h_received_cells v_wanted v_lineControl v_kept v_level v_rowsOn v_overrun v_emptyUp v_beats v_quietSince v_received_head v_received_size) hx hb hr hlocks hK h1 h2 h3 h4 h5
  unfold F_X8_stepLate at hF
  refine lv_aload_n hx hb dX8_stepLate_0 rfl (lv_at hl 0 rfl) ?_
  refine va_get (D := D) (ci := 7) (v := .int (bI v_rowsOn)) (C := RX8) (T := TX8) (N := 18) hx hb hts i_X8 hown hK hP 0 rfl rfl 12 (Nat.le_of_ble_eq_true rfl) f_172 (fun _ h9 => h9) rfl dX8_stepLate_1 ?_
  refine lv_if_eq (tgt := 17) hx hb dX8_stepLate_4 (by decide) (fun c1 => ?_) (fun c1 => ?_)
  · replace hF := bt_f (bI_0 c1) hF
    exact hret v_lateUp _ _ 17 _ hP hD hS hF dX8_stepLate_17
  · replace hF := bt_t (bI_n0 c1) hF
    refine lv_aload_n hx hb dX8_stepLate_7 rfl (lv_at hl 0 rfl) ?_
    refine va_get (D := D) (ci := 7) (v := .ref h_received) (C := RX8) (T := TX8) (N := 18) hx hb hts i_X8 hown hK hP 0 rfl rfl 1 (Nat.le_of_ble_eq_true rfl) f_21 (fun _ h9 => h9) rfl dX8_stepLate_8 ?_
    obtain ⟨u2, hu2, hF⟩ := bd_el hF
    refine cVI (q0 := 1) (ci := 5) (As := []) (rest := []) (wr := [oX8 h_ h_divider h_received h_sending h_sender h_receiver h_modem h_lineIn h_lineOut v_wanted v_lineControl v_kept v_level v_rowsOn v_overrun v_emptyUp v_lateUp v_beats v_quietSince]) (ws' := [oX8 h_ h_divider h_received h_sending h_sender h_receiver h_modem h_lineIn h_lineOut v_wanted v_lineControl v_kept v_level v_rowsOn v_overrun v_emptyUp v_lateUp v_beats v_quietSince, oX5 h_received h_received_cells v_received_head v_received_size]) (rv := bI u2) ⟨hx, hb, hml, hown, hts⟩ (mX5_isEmpty D h_received h_received_cells v_received_head v_received_size u2 hu2) (cwV 0 hts gX8_stepLate_X5_isEmpty rfl rfl rfl (by decide +kernel) ⟨Nat.le_of_ble_eq_true rfl, Nat.le_of_ble_eq_true rfl⟩) hK hP hD hS hA [] [1] [0] [0, 1] rfl rfl rfl rfl rfl rfl rfl rfl rfl hl.1 rfl (Nat.le_of_ble_eq_true rfl) rfl dX8_stepLate_11 ⟨Nat.le_refl _, Nat.le_refl _⟩ (fun H locs hP hD hS => ?_)
    refine lv_if_eq (tgt := 18) hx hb dX8_stepLate_14 (by decide) (fun c3 => ?_) (fun c3 => ?_)
    · replace hF := bt_f (bI_0 c3) hF
      refine lv_aload_n hx hb dX8_stepLate_18 rfl (lv_at hl 0 rfl) ?_
      refine va_get (D := D) (ci := 7) (v := .int v_beats) (C := RX8) (T := TX8) (N := 18) hx hb hts i_X8 hown hK hP 0 rfl rfl 16 (Nat.le_of_ble_eq_true rfl) f_127 (fun _ h9 => h9) rfl dX8_stepLate_19 ?_
      refine lv_aload_n hx hb dX8_stepLate_22 rfl (lv_at hl 0 rfl) ?_
      refine va_get (D := D) (ci := 7) (v := .int v_quietSince) (C := RX8) (T := TX8) (N := 18) hx hb hts i_X8 hown hK hP 0 rfl rfl 17 (Nat.le_of_ble_eq_true rfl) f_185 (fun _ h9 => h9) rfl dX8_stepLate_23 ?_
      refine lv_isub hx hb dX8_stepLate_26 ?_
      refine lv_iconst (v := 4) hx hb dX8_stepLate_27 (by decide) ?_
      refine lv_aload_n hx hb dX8_stepLate_28 rfl (lv_at hl 0 rfl) ?_
      refine va_get (D := D) (ci := 7) (v := .int v_lineControl) (C := RX8) (T := TX8) (N := 18) hx hb hts i_X8 hown hK hP 0 rfl rfl 9 (Nat.le_of_ble_eq_true rfl) f_73 (fun _ h9 => h9) rfl dX8_stepLate_29 ?_
      obtain ⟨u4, hu4, hF⟩ := bd_el hF
      refine cSI (As := [.int v_lineControl]) (rest := [.int 4, .int (v_beats - v_quietSince)]) (wr := [oX8 h_ h_divider h_received h_sending h_sender h_receiver h_modem h_lineIn h_lineOut v_wanted v_lineControl v_kept v_level v_rowsOn v_overrun v_emptyUp v_lateUp v_beats v_quietSince, oX5 h_received h_received_cells v_received_head v_received_size]) (ws' := [oX8 h_ h_divider h_received h_sending h_sender h_receiver h_modem h_lineIn h_lineOut v_wanted v_lineControl v_kept v_level v_rowsOn v_overrun v_emptyUp v_lateUp v_beats v_quietSince, oX5 h_received h_received_cells v_received_head v_received_size]) (rv := u4) ⟨hx, hb, hml, hown, hts⟩ (mX7_beats D v_lineControl u4 hu4) (va_cwS 1 hts gX8_stepLate_X7_beats rfl rfl rfl (by decide +kernel) ⟨Nat.le_of_ble_eq_true rfl, Nat.le_of_ble_eq_true rfl⟩) hK hP hD hS hA [] [] [0, 1] [0, 1] rfl rfl rfl rfl rfl rfl hl.1 rfl (Nat.le_of_ble_eq_true rfl) rfl dX8_stepLate_32 ⟨Nat.le_refl _, Nat.le_refl _⟩ (fun H locs hP hD hS => ?_)
      refine lv_imul hx hb dX8_stepLate_35 ?_
      refine lv_icmp_lt (tgt := 44) hx hb dX8_stepLate_36 (by decide) (fun c5 => ?_) (fun c5 => ?_)
      · replace hF := it_t c5 hF
        exact hret v_lateUp _ _ 44 _ hP hD hS hF dX8_stepLate_44
      · replace hF := it_f c5 hF
        refine lv_aload_n hx hb dX8_stepLate_39 rfl (lv_at hl 0 rfl) ?_
        refine lv_iconst (v := 1) hx hb dX8_stepLate_40 (by decide) ?_
        refine pf (ci := 7) (v := .int (bI true)) (ty := .boolean) (C := RX8) (T := TX8) (N := 18) (ws' := [oX8 h_ h_divider h_received h_sending h_sender h_receiver h_modem h_lineIn h_lineOut v_wanted v_lineControl v_kept v_level v_rowsOn v_overrun v_emptyUp true v_beats v_quietSince, oX5 h_received h_received_cells v_received_head v_received_size]) hx hb hts i_X8 tyX8_ok nmX8 hown hK hP hD hS 0 rfl rfl 15 (Nat.le_of_ble_eq_true rfl) f_182 rfl rfl (by decide +kernel) (nar_bI true) (fit_bI true) (Nat.le_of_ble_eq_true rfl) rfl dX8_stepLate_41 (fun H locs hP hD hS => ?_)
        exact hret true _ _ 44 _ hP hD hS hF dX8_stepLate_44
    · replace hF := bt_t (bI_n0 c3) hF
      exact hret v_lateUp _ _ 17 _ hP hD hS hF dX8_stepLate_17
