theorem dX8_someFault_0 : decode cX8_someFault 0 = .ok (.iconst 0, 1) := by decide +kernel
theorem dX8_someFault_1 : decode cX8_someFault 1 = .ok (.istore_n 1, 1) := by decide +kernel
theorem dX8_someFault_2 : decode cX8_someFault 2 = .ok (.iload_n 1, 1) := by decide +kernel
theorem dX8_someFault_3 : decode cX8_someFault 3 = .ok (.aload_n 0, 1) := by decide +kernel
theorem dX8_someFault_4 : decode cX8_someFault 4 = .ok (.getfield 21, 3) := by decide +kernel
theorem dX8_someFault_7 : decode cX8_someFault 7 = .ok (.invokevirtual 124, 3) := by decide +kernel
theorem dX8_someFault_10 : decode cX8_someFault 10 = .ok (.if_icmp .ge 25, 3) := by decide +kernel
theorem dX8_someFault_13 : decode cX8_someFault 13 = .ok (.aload_n 0, 1) := by decide +kernel
theorem dX8_someFault_14 : decode cX8_someFault 14 = .ok (.getfield 21, 3) := by decide +kernel
theorem dX8_someFault_17 : decode cX8_someFault 17 = .ok (.iload_n 1, 1) := by decide +kernel
theorem dX8_someFault_18 : decode cX8_someFault 18 = .ok (.invokevirtual 236, 3) := by decide +kernel
theorem dX8_someFault_21 : decode cX8_someFault 21 = .ok (.bipush 8, 2) := by decide +kernel
theorem dX8_someFault_23 : decode cX8_someFault 23 = .ok (.ishr, 1) := by decide +kernel
theorem dX8_someFault_24 : decode cX8_someFault 24 = .ok (.ifCond .eq 5, 3) := by decide +kernel
theorem dX8_someFault_27 : decode cX8_someFault 27 = .ok (.iconst 1, 1) := by decide +kernel
theorem dX8_someFault_28 : decode cX8_someFault 28 = .ok (.ireturn, 1) := by decide +kernel
theorem dX8_someFault_29 : decode cX8_someFault 29 = .ok (.iinc 1 1, 3) := by decide +kernel
theorem dX8_someFault_32 : decode cX8_someFault 32 = .ok (.goto (-30), 3) := by decide +kernel
theorem dX8_someFault_35 : decode cX8_someFault 35 = .ok (.iconst 0, 1) := by decide +kernel
theorem dX8_someFault_36 : decode cX8_someFault 36 = .ok (.ireturn, 1) := by decide +kernel
set_option maxRecDepth 20000 in
theorem ggX8_someFault_X5_size : GoodIn wsX8_someFault wsX5_size := goodIn_r _ [6, 7, 36, 37, 38] (by decide +kernel) (by decide +kernel)
set_option maxRecDepth 20000 in
theorem gX8_someFault_X5_size : GoodIn wsX8_someFault (wsV RX8 124 RX5 yX5_size wsX5_size) := goodIn_app (goodIn_of _ (by decide +kernel)) ggX8_someFault_X5_size
set_option maxRecDepth 20000 in
theorem ggX8_someFault_X5_at : GoodIn wsX8_someFault wsX5_at := goodIn_r _ [11, 7, 12, 13, 14, 15, 5, 16, 17, 36, 37, 38] (by decide +kernel) (by decide +kernel)
set_option maxRecDepth 20000 in
theorem gX8_someFault_X5_at : GoodIn wsX8_someFault (wsV RX8 236 RX5 yX5_at wsX5_at) := goodIn_app (goodIn_of _ (by decide +kernel)) ggX8_someFault_X5_at
theorem dX8_tellLineState_0 : decode cX8_tellLineState 0 = .ok (.aload_n 0, 1) := by decide +kernel
theorem dX8_tellLineState_1 : decode cX8_tellLineState 1 = .ok (.invokevirtual 239, 3) := by decide +kernel
theorem dX8_tellLineState_4 : decode cX8_tellLineState 4 = .ok (.istore_n 1, 1) := by decide +kernel
theorem dX8_tellLineState_5 : decode cX8_tellLineState 5 = .ok (.iload_n 1, 1) := by decide +kernel
theorem dX8_tellLineState_6 : decode cX8_tellLineState 6 = .ok (.aload_n 0, 1) := by decide +kernel
theorem dX8_tellLineState_7 : decode cX8_tellLineState 7 = .ok (.getfield 21, 3) := by decide +kernel
theorem dX8_tellLineState_10 : decode cX8_tellLineState 10 = .ok (.invokevirtual 230, 3) := by decide +kernel
theorem dX8_tellLineState_13 : decode cX8_tellLineState 13 = .ok (.ifCond .eq 7, 3) := by decide +kernel
theorem dX8_tellLineState_16 : decode cX8_tellLineState 16 = .ok (.iconst 0, 1) := by decide +kernel
theorem dX8_tellLineState_17 : decode cX8_tellLineState 17 = .ok (.goto 4, 3) := by decide +kernel
theorem dX8_tellLineState_20 : decode cX8_tellLineState 20 = .ok (.iconst 1, 1) := by decide +kernel
theorem dX8_tellLineState_21 : decode cX8_tellLineState 21 = .ok (.ior, 1) := by decide +kernel
theorem dX8_tellLineState_22 : decode cX8_tellLineState 22 = .ok (.istore_n 1, 1) := by decide +kernel
theorem dX8_tellLineState_23 : decode cX8_tellLineState 23 = .ok (.iload_n 1, 1) := by decide +kernel
theorem dX8_tellLineState_24 : decode cX8_tellLineState 24 = .ok (.aload_n 0, 1) := by decide +kernel
theorem dX8_tellLineState_25 : decode cX8_tellLineState 25 = .ok (.getfield 176, 3) := by decide +kernel
theorem dX8_tellLineState_28 : decode cX8_tellLineState 28 = .ok (.ifCond .eq 7, 3) := by decide +kernel
theorem dX8_tellLineState_31 : decode cX8_tellLineState 31 = .ok (.iconst 2, 1) := by decide +kernel
theorem dX8_tellLineState_32 : decode cX8_tellLineState 32 = .ok (.goto 4, 3) := by decide +kernel
theorem dX8_tellLineState_35 : decode cX8_tellLineState 35 = .ok (.iconst 0, 1) := by decide +kernel
theorem dX8_tellLineState_36 : decode cX8_tellLineState 36 = .ok (.ior, 1) := by decide +kernel
theorem dX8_tellLineState_37 : decode cX8_tellLineState 37 = .ok (.istore_n 1, 1) := by decide +kernel
theorem dX8_tellLineState_38 : decode cX8_tellLineState 38 = .ok (.iload_n 1, 1) := by decide +kernel
theorem dX8_tellLineState_39 : decode cX8_tellLineState 39 = .ok (.aload_n 0, 1) := by decide +kernel
theorem dX8_tellLineState_40 : decode cX8_tellLineState 40 = .ok (.getfield 25, 3) := by decide +kernel
theorem dX8_tellLineState_43 : decode cX8_tellLineState 43 = .ok (.invokevirtual 230, 3) := by decide +kernel
theorem dX8_tellLineState_46 : decode cX8_tellLineState 46 = .ok (.ifCond .eq 8, 3) := by decide +kernel
theorem dX8_tellLineState_49 : decode cX8_tellLineState 49 = .ok (.bipush 32, 2) := by decide +kernel
theorem dX8_tellLineState_51 : decode cX8_tellLineState 51 = .ok (.goto 4, 3) := by decide +kernel
theorem dX8_tellLineState_54 : decode cX8_tellLineState 54 = .ok (.iconst 0, 1) := by decide +kernel
theorem dX8_tellLineState_55 : decode cX8_tellLineState 55 = .ok (.ior, 1) := by decide +kernel
theorem dX8_tellLineState_56 : decode cX8_tellLineState 56 = .ok (.istore_n 1, 1) := by decide +kernel
theorem dX8_tellLineState_57 : decode cX8_tellLineState 57 = .ok (.iload_n 1, 1) := by decide +kernel
theorem dX8_tellLineState_58 : decode cX8_tellLineState 58 = .ok (.aload_n 0, 1) := by decide +kernel
theorem dX8_tellLineState_59 : decode cX8_tellLineState 59 = .ok (.getfield 25, 3) := by decide +kernel
theorem dX8_tellLineState_62 : decode cX8_tellLineState 62 = .ok (.invokevirtual 230, 3) := by decide +kernel
theorem dX8_tellLineState_65 : decode cX8_tellLineState 65 = .ok (.ifCond .eq 18, 3) := by decide +kernel
theorem dX8_tellLineState_68 : decode cX8_tellLineState 68 = .ok (.aload_n 0, 1) := by decide +kernel
theorem dX8_tellLineState_69 : decode cX8_tellLineState 69 = .ok (.getfield 31, 3) := by decide +kernel
theorem dX8_tellLineState_72 : decode cX8_tellLineState 72 = .ok (.invokevirtual 140, 3) := by decide +kernel
theorem dX8_tellLineState_75 : decode cX8_tellLineState 75 = .ok (.ifCond .ne 8, 3) := by decide +kernel
theorem dX8_tellLineState_78 : decode cX8_tellLineState 78 = .ok (.bipush 64, 2) := by decide +kernel
theorem dX8_tellLineState_80 : decode cX8_tellLineState 80 = .ok (.goto 4, 3) := by decide +kernel
theorem dX8_tellLineState_83 : decode cX8_tellLineState 83 = .ok (.iconst 0, 1) := by decide +kernel
theorem dX8_tellLineState_84 : decode cX8_tellLineState 84 = .ok (.ior, 1) := by decide +kernel
theorem dX8_tellLineState_85 : decode cX8_tellLineState 85 = .ok (.istore_n 1, 1) := by decide +kernel
theorem dX8_tellLineState_86 : decode cX8_tellLineState 86 = .ok (.iload_n 1, 1) := by decide +kernel
theorem dX8_tellLineState_87 : decode cX8_tellLineState 87 = .ok (.aload_n 0, 1) := by decide +kernel
theorem dX8_tellLineState_88 : decode cX8_tellLineState 88 = .ok (.getfield 172, 3) := by decide +kernel
theorem dX8_tellLineState_91 : decode cX8_tellLineState 91 = .ok (.ifCond .eq 16, 3) := by decide +kernel
theorem dX8_tellLineState_94 : decode cX8_tellLineState 94 = .ok (.aload_n 0, 1) := by decide +kernel
theorem dX8_tellLineState_95 : decode cX8_tellLineState 95 = .ok (.invokevirtual 242, 3) := by decide +kernel
theorem dX8_tellLineState_98 : decode cX8_tellLineState 98 = .ok (.ifCond .eq 9, 3) := by decide +kernel
theorem dX8_tellLineState_101 : decode cX8_tellLineState 101 = .ok (.sipush 128, 3) := by decide +kernel
theorem dX8_tellLineState_104 : decode cX8_tellLineState 104 = .ok (.goto 4, 3) := by decide +kernel
theorem dX8_tellLineState_107 : decode cX8_tellLineState 107 = .ok (.iconst 0, 1) := by decide +kernel
theorem dX8_tellLineState_108 : decode cX8_tellLineState 108 = .ok (.ior, 1) := by decide +kernel
theorem dX8_tellLineState_109 : decode cX8_tellLineState 109 = .ok (.istore_n 1, 1) := by decide +kernel
theorem dX8_tellLineState_110 : decode cX8_tellLineState 110 = .ok (.aload_n 0, 1) := by decide +kernel
theorem dX8_tellLineState_111 : decode cX8_tellLineState 111 = .ok (.iconst 0, 1) := by decide +kernel
theorem dX8_tellLineState_112 : decode cX8_tellLineState 112 = .ok (.putfield 176, 3) := by decide +kernel
theorem dX8_tellLineState_115 : decode cX8_tellLineState 115 = .ok (.aload_n 0, 1) := by decide +kernel
theorem dX8_tellLineState_116 : decode cX8_tellLineState 116 = .ok (.getfield 21, 3) := by decide +kernel
theorem dX8_tellLineState_119 : decode cX8_tellLineState 119 = .ok (.aload_n 0, 1) := by decide +kernel
theorem dX8_tellLineState_120 : decode cX8_tellLineState 120 = .ok (.getfield 21, 3) := by decide +kernel
theorem dX8_tellLineState_123 : decode cX8_tellLineState 123 = .ok (.invokevirtual 224, 3) := by decide +kernel
theorem dX8_tellLineState_126 : decode cX8_tellLineState 126 = .ok (.sipush 255, 3) := by decide +kernel
theorem dX8_tellLineState_129 : decode cX8_tellLineState 129 = .ok (.iand, 1) := by decide +kernel
theorem dX8_tellLineState_130 : decode cX8_tellLineState 130 = .ok (.invokevirtual 221, 3) := by decide +kernel
theorem dX8_tellLineState_133 : decode cX8_tellLineState 133 = .ok (.iload_n 1, 1) := by decide +kernel
theorem dX8_tellLineState_134 : decode cX8_tellLineState 134 = .ok (.ireturn, 1) := by decide +kernel
set_option maxRecDepth 20000 in
theorem ggX8_tellLineState_X8_firstFaults : GoodIn wsX8_tellLineState wsX8_firstFaults := goodIn_r _ [10, 1, 11, 12, 13, 14, 15, 16, 17, 18, 19, 20, 21, 22, 23, 24, 25, 26, 54, 55, 56, 57, 58, 59, 60, 61, 62, 63, 64, 65, 66, 67, 68, 69, 70, 71, 72, 73, 74] (by decide +kernel) (by decide +kernel)
set_option maxRecDepth 20000 in
theorem gX8_tellLineState_X8_firstFaults : GoodIn wsX8_tellLineState (wsV RX8 239 RX8 yX8_firstFaults wsX8_firstFaults) := goodIn_app (goodIn_of _ (by decide +kernel)) ggX8_tellLineState_X8_firstFaults
set_option maxRecDepth 20000 in
theorem ggX8_tellLineState_X5_isEmpty : GoodIn wsX8_tellLineState wsX5_isEmpty := goodIn_r _ [30, 20, 72, 73, 74] (by decide +kernel) (by decide +kernel)
set_option maxRecDepth 20000 in
theorem gX8_tellLineState_X5_isEmpty : GoodIn wsX8_tellLineState (wsV RX8 230 RX5 yX5_isEmpty wsX5_isEmpty) := goodIn_app (goodIn_of _ (by decide +kernel)) ggX8_tellLineState_X5_isEmpty
set_option maxRecDepth 20000 in
theorem ggX8_tellLineState_X6_isBusy : GoodIn wsX8_tellLineState wsX6_isBusy := goodIn_r _ [35, 36, 75, 76, 77, 78] (by decide +kernel) (by decide +kernel)
set_option maxRecDepth 20000 in
theorem gX8_tellLineState_X6_isBusy : GoodIn wsX8_tellLineState (wsV RX8 140 RX6 yX6_isBusy wsX6_isBusy) := goodIn_app (goodIn_of _ (by decide +kernel)) ggX8_tellLineState_X6_isBusy
set_option maxRecDepth 20000 in
theorem ggX8_tellLineState_X8_someFault : GoodIn wsX8_tellLineState wsX8_someFault := goodIn_r _ [40, 1, 41, 42, 43, 14, 44, 20, 45, 17, 18, 19, 21, 22, 23, 24, 25, 26, 54, 55, 56, 57, 58, 59, 60, 61, 62, 63, 64, 65, 66, 67, 68, 69, 70, 71, 72, 73, 74] (by decide +kernel) (by decide +kernel)
set_option maxRecDepth 20000 in
theorem gX8_tellLineState_X8_someFault : GoodIn wsX8_tellLineState (wsV RX8 242 RX8 yX8_someFault wsX8_someFault) := goodIn_app (goodIn_of _ (by decide +kernel)) ggX8_tellLineState_X8_someFault
set_option maxRecDepth 20000 in
theorem ggX8_tellLineState_X5_first : GoodIn wsX8_tellLineState wsX5_first := goodIn_r _ [15, 16, 17, 18, 14, 19, 20, 21, 22, 23, 24, 25, 26, 72, 73, 74] (by decide +kernel) (by decide +kernel)
set_option maxRecDepth 20000 in
theorem gX8_tellLineState_X5_first : GoodIn wsX8_tellLineState (wsV RX8 224 RX5 yX5_first wsX5_first) := goodIn_app (goodIn_of _ (by decide +kernel)) ggX8_tellLineState_X5_first
set_option maxRecDepth 20000 in
theorem ggX8_tellLineState_X5_setFirst : GoodIn wsX8_tellLineState wsX5_setFirst := goodIn_r _ [49, 50, 51, 52, 14, 53, 20, 21, 22, 23, 24, 25, 26, 72, 73, 74] (by decide +kernel) (by decide +kernel)
set_option maxRecDepth 20000 in
theorem gX8_tellLineState_X5_setFirst : GoodIn wsX8_tellLineState (wsV RX8 221 RX5 yX5_setFirst wsX5_setFirst) := goodIn_app (goodIn_of _ (by decide +kernel)) ggX8_tellLineState_X5_setFirst
def F_X8_someFault_2_s (rec : Int32 → Option (Bool)) (v_received_head : Int32) (v_received_size : Int32) (v_received_cells_n : Nat) (v_received_cells_a : Nat → Int32) (l1 : Int32) : Option (Bool) := bd (F_X5_size v_received_size) (fun u1 => if u1 ≤ l1 then (some false) else (bd (F_X5_at l1 v_received_head v_received_size v_received_cells_n v_received_cells_a) (fun u3 => if (u3 >>> ((8 : Int32) &&& 31)) = 0 then (lt1 (l1 + 1) (fun x5 => rec x5)) else (some true))))
def F_X8_someFault_2 (v_received_head : Int32) (v_received_size : Int32) (v_received_cells_n : Nat) (v_received_cells_a : Nat → Int32) : Nat → Int32 → Option (Bool)
  | 0 => fun _ => none
  | n + 1 => F_X8_someFault_2_s (F_X8_someFault_2 v_received_head v_received_size v_received_cells_n v_received_cells_a n) v_received_head v_received_size v_received_cells_n v_received_cells_a
def F_X8_someFault  (v_received_head : Int32) (v_received_size : Int32) (v_received_cells_n : Nat) (v_received_cells_a : Nat → Int32) : Option (Bool) := F_X8_someFault_2 v_received_head v_received_size v_received_cells_n v_received_cells_a 100000 0
def wX8_someFault (k_received_cells : ClassId) (h_ : Nat) (h_divider : Nat) (h_received : Nat) (h_sending : Nat) (h_sender : Nat) (h_receiver : Nat) (h_modem : Nat) (h_lineIn : Nat) (h_lineOut : Nat) (h_received_cells : Nat) (v_wanted : Int32) (v_lineControl : Int32) (v_kept : Int32) (v_level : Int32) (v_rowsOn : Bool) (v_overrun : Bool) (v_emptyUp : Bool) (v_lateUp : Bool) (v_beats : Int32) (v_quietSince : Int32) (v_received_head : Int32) (v_received_size : Int32) (v_received_cells_n : Nat) (v_received_cells_a : Nat → Int32) (_u : Bool) : va_W := [oX8 h_ h_divider h_received h_sending h_sender h_receiver h_modem h_lineIn h_lineOut v_wanted v_lineControl v_kept v_level v_rowsOn v_overrun v_emptyUp v_lateUp v_beats v_quietSince, oX5 h_received h_received_cells v_received_head v_received_size, aI h_received_cells k_received_cells v_received_cells_n v_received_cells_a]
set_option maxHeartbeats 4000000 in
set_option maxRecDepth 100000 in
theorem mX8_someFault {l : Launch} (D : va_G) (k_received_cells : ClassId) (h_ : Nat) (h_divider : Nat) (h_received : Nat) (h_sending : Nat) (h_sender : Nat) (h_receiver : Nat) (h_modem : Nat) (h_lineIn : Nat) (h_lineOut : Nat) (h_received_cells : Nat) (v_wanted : Int32) (v_lineControl : Int32) (v_kept : Int32) (v_level : Int32) (v_rowsOn : Bool) (v_overrun : Bool) (v_emptyUp : Bool) (v_lateUp : Bool) (v_beats : Int32) (v_quietSince : Int32) (v_received_head : Int32) (v_received_size : Int32) (v_received_cells_n : Nat) (v_received_cells_a : Nat → Int32) (u0 : Bool) (hF : F_X8_someFault v_received_head v_received_size v_received_cells_n v_received_cells_a = some u0) : MI l yX8_someFault wsX8_someFault { frames := 2, cells := 0, slots := 0, locals := 44 } D [(k_received_cells, .int)] [.ref h_] [oX8 h_ h_divider h_received h_sending h_sender h_receiver h_modem h_lineIn h_lineOut v_wanted v_lineControl v_kept v_level v_rowsOn v_overrun v_emptyUp v_lateUp v_beats v_quietSince, oX5 h_received h_received_cells v_received_head v_received_size, aI h_received_cells k_received_cells v_received_cells_n v_received_cells_a] (wX8_someFault k_received_cells h_ h_divider h_received h_sending h_sender h_receiver h_modem h_lineIn h_lineOut h_received_cells v_wanted v_lineControl v_kept v_level v_rowsOn v_overrun v_emptyUp v_lateUp v_beats v_quietSince v_received_head v_received_size v_received_cells_n v_received_cells_a u0) (bI u0) := by
  refine MI.ofW (cc := cX8_someFault) (maxL := 2) (ret := (some .boolean)) (lv := [(0, .ref h_)]) (by decide +kernel) rfl (Nat.le_of_ble_eq_true rfl) rfl ?_
  intro p e s m args below meth c A ls hx hb hr hml hts hown hlocks hA hK hP hD hS hl
  replace hown : s.vm.findClass RX8 = some m.cls := hown
  have i_X8 : ∀ w ∈ wsX80, w ∈ wsX8_someFault := by decide +kernel
  have f_21 := hts (.fieldLink RX8 21 "SerialPort" "received" "LSerialPort$Ring;") (by decide +kernel)
  have hret : ∀ (u : Bool) (v : Int32) (H : Heap) (locs : List Loc) (pc : Nat) (ls : Array Slot), va_P D vwCl (wX8_someFault k_received_cells h_ h_divider h_received h_sending h_sender h_receiver h_modem h_lineIn h_lineOut h_received_cells v_wanted v_lineControl v_kept v_level v_rowsOn v_overrun v_emptyUp v_lateUp v_beats v_quietSince v_received_head v_received_size v_received_cells_n v_received_cells_a u) H → va_D A (wX8_someFault k_received_cells h_ h_divider h_received h_sending h_sender h_receiver h_modem h_lineIn h_lineOut h_received_cells v_wanted v_lineControl v_kept v_level v_rowsOn v_overrun v_emptyUp v_lateUp v_beats v_quietSince v_received_head v_received_size v_received_cells_n v_received_cells_a u) → va_S A s.heap H locs → some u = some u0 → v = bI u → decode cX8_someFault pc = .ok (.ireturn, 1) → W p l e { frames := 2, cells := 0, slots := 0, locals := 44 } s m args below meth c H locs 0 0 (QI below D [(k_received_cells, .int)] (wX8_someFault k_received_cells h_ h_divider h_received h_sending h_sender h_receiver h_modem h_lineIn h_lineOut h_received_cells v_wanted v_lineControl v_kept v_level v_rowsOn v_overrun v_emptyUp v_lateUp v_beats v_quietSince v_received_head v_received_size v_received_cells_n v_received_cells_a u0) (bI u0) args s A) (F0 m pc ls [.int v]) := fun u v H locs pc ls h1 h2 h3 h4 h5 h6 => rZ (wf := wX8_someFault k_received_cells h_ h_divider h_received h_sending h_sender h_receiver h_modem h_lineIn h_lineOut h_received_cells v_wanted v_lineControl v_kept v_level v_rowsOn v_overrun v_emptyUp v_lateUp v_beats v_quietSince v_received_head v_received_size v_received_cells_n v_received_cells_a) (rf := fun u => u) hx hb hr hlocks hK h1 h2 h3 h4 h5 h6
  have J2 : ∀ (n : Nat) (l1 : Int32) (H : Heap) (locs : List Loc) (ls : Array Slot), F_X8_someFault_2 v_received_head v_received_size v_received_cells_n v_received_cells_a n l1 = some u0 → lv_has ls 2 [(0, .ref h_), (1, .int l1)] → va_P D vwCl [oX8 h_ h_divider h_received h_sending h_sender h_receiver h_modem h_lineIn h_lineOut v_wanted v_lineControl v_kept v_level v_rowsOn v_overrun v_emptyUp v_lateUp v_beats v_quietSince, oX5 h_received h_received_cells v_received_head v_received_size, aI h_received_cells k_received_cells v_received_cells_n v_received_cells_a] H → va_D A [oX8 h_ h_divider h_received h_sending h_sender h_receiver h_modem h_lineIn h_lineOut v_wanted v_lineControl v_kept v_level v_rowsOn v_overrun v_emptyUp v_lateUp v_beats v_quietSince, oX5 h_received h_received_cells v_received_head v_received_size, aI h_received_cells k_received_cells v_received_cells_n v_received_cells_a] → va_S A s.heap H locs → W p l e { frames := 2, cells := 0, slots := 0, locals := 44 } s m args below meth c H locs 0 0 (QI below D [(k_received_cells, .int)] (wX8_someFault k_received_cells h_ h_divider h_received h_sending h_sender h_receiver h_modem h_lineIn h_lineOut h_received_cells v_wanted v_lineControl v_kept v_level v_rowsOn v_overrun v_emptyUp v_lateUp v_beats v_quietSince v_received_head v_received_size v_received_cells_n v_received_cells_a u0) (bI u0) args s A) (F0 m 2 ls []) := by
    intro n
    induction n with
    | zero =>
      intro l1 H locs ls hF hl hP hD hS
      have hF : (none : Option (Bool)) = some u0 := hF
      cases hF
    | succ n ih =>
      intro l1 H locs ls hF hl hP hD hS
      replace hF : F_X8_someFault_2_s (F_X8_someFault_2 v_received_head v_received_size v_received_cells_n v_received_cells_a n) v_received_head v_received_size v_received_cells_n v_received_cells_a l1 = some u0 := hF
      unfold F_X8_someFault_2_s at hF
      refine lv_iload_n hx hb dX8_someFault_2 rfl (lv_at hl 1 rfl) ?_
      refine lv_aload_n hx hb dX8_someFault_3 rfl (lv_at hl 0 rfl) ?_
      refine va_get (D := D) (ci := 7) (v := .ref h_received) (C := RX8) (T := TX8) (N := 18) hx hb hts i_X8 hown hK hP 0 rfl rfl 1 (Nat.le_of_ble_eq_true rfl) f_21 (fun _ h9 => h9) rfl dX8_someFault_4 ?_
      obtain ⟨u1, hu1, hF⟩ := bd_el hF
      refine cVI (q0 := 1) (ci := 5) (As := []) (rest := [.int l1]) (wr := [oX8 h_ h_divider h_received h_sending h_sender h_receiver h_modem h_lineIn h_lineOut v_wanted v_lineControl v_kept v_level v_rowsOn v_overrun v_emptyUp v_lateUp v_beats v_quietSince, aI h_received_cells k_received_cells v_received_cells_n v_received_cells_a]) (ws' := [oX8 h_ h_divider h_received h_sending h_sender h_receiver h_modem h_lineIn h_lineOut v_wanted v_lineControl v_kept v_level v_rowsOn v_overrun v_emptyUp v_lateUp v_beats v_quietSince, oX5 h_received h_received_cells v_received_head v_received_size, aI h_received_cells k_received_cells v_received_cells_n v_received_cells_a]) (rv := u1) ⟨hx, hb, hml, hown, hts⟩ (mX5_size D h_received h_received_cells v_received_head v_received_size u1 hu1) (cwV 0 hts gX8_someFault_X5_size rfl rfl rfl (by decide +kernel) ⟨Nat.le_of_ble_eq_true rfl, Nat.le_of_ble_eq_true rfl⟩) hK hP hD hS hA [] [1] [0, 2] [0, 2, 1] rfl rfl rfl rfl rfl rfl rfl rfl rfl hl.1 rfl (Nat.le_of_ble_eq_true rfl) rfl dX8_someFault_7 ⟨Nat.le_refl _, Nat.le_refl _⟩ (fun H locs hP hD hS => ?_)
      refine lv_icmp_ge (tgt := 35) hx hb dX8_someFault_10 (by decide) (fun c2 => ?_) (fun c2 => ?_)
      · replace hF := it_t c2 hF
        refine lv_iconst (v := 0) hx hb dX8_someFault_35 (by decide) ?_
        exact hret false 0 _ _ 36 _ hP hD hS hF rfl dX8_someFault_36
      · replace hF := it_f c2 hF
        refine lv_aload_n hx hb dX8_someFault_13 rfl (lv_at hl 0 rfl) ?_
        refine va_get (D := D) (ci := 7) (v := .ref h_received) (C := RX8) (T := TX8) (N := 18) hx hb hts i_X8 hown hK hP 0 rfl rfl 1 (Nat.le_of_ble_eq_true rfl) f_21 (fun _ h9 => h9) rfl dX8_someFault_14 ?_
        refine lv_iload_n hx hb dX8_someFault_17 rfl (lv_at hl 1 rfl) ?_
        obtain ⟨u3, hu3, hF⟩ := bd_el hF
        refine cVI (q0 := 1) (ci := 5) (As := [.int l1]) (rest := []) (wr := [oX8 h_ h_divider h_received h_sending h_sender h_receiver h_modem h_lineIn h_lineOut v_wanted v_lineControl v_kept v_level v_rowsOn v_overrun v_emptyUp v_lateUp v_beats v_quietSince]) (ws' := [oX8 h_ h_divider h_received h_sending h_sender h_receiver h_modem h_lineIn h_lineOut v_wanted v_lineControl v_kept v_level v_rowsOn v_overrun v_emptyUp v_lateUp v_beats v_quietSince, oX5 h_received h_received_cells v_received_head v_received_size, aI h_received_cells k_received_cells v_received_cells_n v_received_cells_a]) (rv := u3) ⟨hx, hb, hml, hown, hts⟩ (mX5_at D k_received_cells h_received h_received_cells v_received_head v_received_size v_received_cells_n v_received_cells_a l1 u3 hu3) (cwV 1 hts gX8_someFault_X5_at rfl rfl rfl (by decide +kernel) ⟨Nat.le_of_ble_eq_true rfl, Nat.le_of_ble_eq_true rfl⟩) hK hP hD hS hA [0] [1, 2] [0] [0, 1, 2] rfl rfl rfl rfl rfl rfl rfl rfl rfl hl.1 rfl (Nat.le_of_ble_eq_true rfl) rfl dX8_someFault_18 ⟨Nat.le_refl _, Nat.le_refl _⟩ (fun H locs hP hD hS => ?_)
        refine lv_bipush (v := 8) hx hb dX8_someFault_21 (by decide) ?_
        refine lv_ishr hx hb dX8_someFault_23 ?_
        refine lv_if_eq (tgt := 29) hx hb dX8_someFault_24 (by decide) (fun c4 => ?_) (fun c4 => ?_)
        · replace hF := it_t c4 hF
          obtain ⟨x5, ex5⟩ : ∃ y : Int32, y = l1 + 1 := ⟨_, rfl⟩
          replace hF := lt1_x ex5 hF
          refine lv_iinc (v := x5) (lv' := [(1, .int x5), (0, .ref h_)]) hx hb dX8_someFault_29 hl (k := 1) rfl (by rw [ex5]; rfl) (Nat.le_of_ble_eq_true rfl) rfl (fun ls hl => ?_)
          refine lv_goto (tgt := 2) hx hb dX8_someFault_32 (by decide) ?_
          exact ih x5 _ _ _ hF (lv_sub hl [1, 0] rfl) hP hD hS
        · replace hF := it_f c4 hF
          refine lv_iconst (v := 1) hx hb dX8_someFault_27 (by decide) ?_
          exact hret true 1 _ _ 28 _ hP hD hS hF rfl dX8_someFault_28
  unfold F_X8_someFault at hF
  refine lv_iconst (v := 0) hx hb dX8_someFault_0 (by decide) ?_
  refine lv_istore_n (lv' := [(1, .int 0), (0, .ref h_)]) hx hb dX8_someFault_1 rfl hl (Nat.le_of_ble_eq_true rfl) rfl (fun ls hl => ?_)
  exact J2 100000 0 _ _ _ hF (lv_sub hl [1, 0] rfl) hP hD hS
def F_X8_tellLineState_108 (v_rowsOn : Bool) (v_received_head : Int32) (v_received_size : Int32) (v_received_cells_n : Nat) (v_sending_size : Int32) (v_sender_busy : Bool) (s0 : Int32) (s1 : Int32) (v_overrun : Bool) (v_received_cells_a : Nat → Int32) : Option (Int32 × Bool × (Nat → Int32)) := lt1 (s0 ||| s1) (fun x1 => bd (F_X5_first v_received_head v_received_size v_received_cells_n v_received_cells_a) (fun u2 => bd (F_X5_setFirst (u2 &&& 255) v_received_head v_received_size v_received_cells_n v_received_cells_a) (fun u3 => some (x1, false, u3))))
def F_X8_tellLineState_84 (v_rowsOn : Bool) (v_received_head : Int32) (v_received_size : Int32) (v_received_cells_n : Nat) (v_sending_size : Int32) (v_sender_busy : Bool) (s0 : Int32) (s1 : Int32) (v_overrun : Bool) (v_received_cells_a : Nat → Int32) : Option (Int32 × Bool × (Nat → Int32)) := lt1 (s0 ||| s1) (fun x4 => bt v_rowsOn (bd (F_X8_someFault v_received_head v_received_size v_received_cells_n v_received_cells_a) (fun u6 => bt u6 (F_X8_tellLineState_108 v_rowsOn v_received_head v_received_size v_received_cells_n v_sending_size v_sender_busy x4 128 v_overrun v_received_cells_a) (F_X8_tellLineState_108 v_rowsOn v_received_head v_received_size v_received_cells_n v_sending_size v_sender_busy x4 0 v_overrun v_received_cells_a))) (F_X8_tellLineState_108 v_rowsOn v_received_head v_received_size v_received_cells_n v_sending_size v_sender_busy x4 0 v_overrun v_received_cells_a))
def F_X8_tellLineState_55 (v_rowsOn : Bool) (v_received_head : Int32) (v_received_size : Int32) (v_received_cells_n : Nat) (v_sending_size : Int32) (v_sender_busy : Bool) (s0 : Int32) (s1 : Int32) (v_overrun : Bool) (v_received_cells_a : Nat → Int32) : Option (Int32 × Bool × (Nat → Int32)) := lt1 (s0 ||| s1) (fun x8 => bd (F_X5_isEmpty v_sending_size) (fun u9 => bt u9 (bd (F_X6_isBusy v_sender_busy) (fun u11 => bt u11 (F_X8_tellLineState_84 v_rowsOn v_received_head v_received_size v_received_cells_n v_sending_size v_sender_busy x8 0 v_overrun v_received_cells_a) (F_X8_tellLineState_84 v_rowsOn v_received_head v_received_size v_received_cells_n v_sending_size v_sender_busy x8 64 v_overrun v_received_cells_a))) (F_X8_tellLineState_84 v_rowsOn v_received_head v_received_size v_received_cells_n v_sending_size v_sender_busy x8 0 v_overrun v_received_cells_a)))
def F_X8_tellLineState_36 (v_rowsOn : Bool) (v_received_head : Int32) (v_received_size : Int32) (v_received_cells_n : Nat) (v_sending_size : Int32) (v_sender_busy : Bool) (s0 : Int32) (s1 : Int32) (v_overrun : Bool) (v_received_cells_a : Nat → Int32) : Option (Int32 × Bool × (Nat → Int32)) := lt1 (s0 ||| s1) (fun x13 => bd (F_X5_isEmpty v_sending_size) (fun u14 => bt u14 (F_X8_tellLineState_55 v_rowsOn v_received_head v_received_size v_received_cells_n v_sending_size v_sender_busy x13 32 v_overrun v_received_cells_a) (F_X8_tellLineState_55 v_rowsOn v_received_head v_received_size v_received_cells_n v_sending_size v_sender_busy x13 0 v_overrun v_received_cells_a)))
def F_X8_tellLineState_21 (v_rowsOn : Bool) (v_received_head : Int32) (v_received_size : Int32) (v_received_cells_n : Nat) (v_sending_size : Int32) (v_sender_busy : Bool) (s0 : Int32) (s1 : Bool) (v_overrun : Bool) (v_received_cells_a : Nat → Int32) : Option (Int32 × Bool × (Nat → Int32)) := lt1 (s0 ||| (bI s1)) (fun x16 => bt v_overrun (F_X8_tellLineState_36 v_rowsOn v_received_head v_received_size v_received_cells_n v_sending_size v_sender_busy x16 2 v_overrun v_received_cells_a) (F_X8_tellLineState_36 v_rowsOn v_received_head v_received_size v_received_cells_n v_sending_size v_sender_busy x16 0 v_overrun v_received_cells_a))
def F_X8_tellLineState  (v_rowsOn : Bool) (v_overrun : Bool) (v_received_head : Int32) (v_received_size : Int32) (v_received_cells_n : Nat) (v_received_cells_a : Nat → Int32) (v_sending_size : Int32) (v_sender_busy : Bool) : Option (Int32 × Bool × (Nat → Int32)) := bd (F_X8_firstFaults v_received_head v_received_size v_received_cells_n v_received_cells_a) (fun u18 => bd (F_X5_isEmpty v_received_size) (fun u19 => bt u19 (F_X8_tellLineState_21 v_rowsOn v_received_head v_received_size v_received_cells_n v_sending_size v_sender_busy u18 false v_overrun v_received_cells_a) (F_X8_tellLineState_21 v_rowsOn v_received_head v_received_size v_received_cells_n v_sending_size v_sender_busy u18 true v_overrun v_received_cells_a)))
def wX8_tellLineState (k_received_cells : ClassId) (h_ : Nat) (h_divider : Nat) (h_received : Nat) (h_sending : Nat) (h_sender : Nat) (h_receiver : Nat) (h_modem : Nat) (h_lineIn : Nat) (h_lineOut : Nat) (h_received_cells : Nat) (h_sending_cells : Nat) (v_wanted : Int32) (v_lineControl : Int32) (v_kept : Int32) (v_level : Int32) (v_rowsOn : Bool) (v_emptyUp : Bool) (v_lateUp : Bool) (v_beats : Int32) (v_quietSince : Int32) (v_received_head : Int32) (v_received_size : Int32) (v_received_cells_n : Nat) (v_sending_head : Int32) (v_sending_size : Int32) (v_sender_control : Int32) (v_sender_character : Int32) (v_sender_beat : Int32) (v_sender_busy : Bool) (u : Int32 × Bool × (Nat → Int32)) : va_W := [oX8 h_ h_divider h_received h_sending h_sender h_receiver h_modem h_lineIn h_lineOut v_wanted v_lineControl v_kept v_level v_rowsOn u.2.1 v_emptyUp v_lateUp v_beats v_quietSince, oX5 h_received h_received_cells v_received_head v_received_size, aI h_received_cells k_received_cells v_received_cells_n u.2.2, oX5 h_sending h_sending_cells v_sending_head v_sending_size, oX6 h_sender v_sender_control v_sender_character v_sender_beat v_sender_busy]
set_option maxHeartbeats 4000000 in
set_option maxRecDepth 100000 in
theorem mX8_tellLineState {l : Launch} (D : va_G) (k_received_cells : ClassId) (h_ : Nat) (h_divider : Nat) (h_received : Nat) (h_sending : Nat) (h_sender : Nat) (h_receiver : Nat) (h_modem : Nat) (h_lineIn : Nat) (h_lineOut : Nat) (h_received_cells : Nat) (h_sending_cells : Nat) (v_wanted : Int32) (v_lineControl : Int32) (v_kept : Int32) (v_level : Int32) (v_rowsOn : Bool) (v_overrun : Bool) (v_emptyUp : Bool) (v_lateUp : Bool) (v_beats : Int32) (v_quietSince : Int32) (v_received_head : Int32) (v_received_size : Int32) (v_received_cells_n : Nat) (v_received_cells_a : Nat → Int32) (v_sending_head : Int32) (v_sending_size : Int32) (v_sender_control : Int32) (v_sender_character : Int32) (v_sender_beat : Int32) (v_sender_busy : Bool) (u0 : Int32 × Bool × (Nat → Int32)) (hF : F_X8_tellLineState v_rowsOn v_overrun v_received_head v_received_size v_received_cells_n v_received_cells_a v_sending_size v_sender_busy = some u0) : MI l yX8_tellLineState wsX8_tellLineState { frames := 4, cells := 0, slots := 0, locals := 84 } D [(k_received_cells, .int)] [.ref h_] [oX8 h_ h_divider h_received h_sending h_sender h_receiver h_modem h_lineIn h_lineOut v_wanted v_lineControl v_kept v_level v_rowsOn v_overrun v_emptyUp v_lateUp v_beats v_quietSince, oX5 h_received h_received_cells v_received_head v_received_size, aI h_received_cells k_received_cells v_received_cells_n v_received_cells_a, oX5 h_sending h_sending_cells v_sending_head v_sending_size, oX6 h_sender v_sender_control v_sender_character v_sender_beat v_sender_busy] (wX8_tellLineState k_received_cells h_ h_divider h_received h_sending h_sender h_receiver h_modem h_lineIn h_lineOut h_received_cells h_sending_cells v_wanted v_lineControl v_kept v_level v_rowsOn v_emptyUp v_lateUp v_beats v_quietSince v_received_head v_received_size v_received_cells_n v_sending_head v_sending_size v_sender_control v_sender_character v_sender_beat v_sender_busy u0) (u0.1) := by
  refine MI.ofW (cc := cX8_tellLineState) (maxL := 2) (ret := (some .int)) (lv := [(0, .ref h_)]) (by decide +kernel) rfl (Nat.le_of_ble_eq_true rfl) rfl ?_
  intro p e s m args below meth c A ls hx hb hr hml hts hown hlocks hA hK hP hD hS hl
  replace hown : s.vm.findClass RX8 = some m.cls := hown
  have i_X8 : ∀ w ∈ wsX80, w ∈ wsX8_tellLineState := by decide +kernel
  have f_21 := hts (.fieldLink RX8 21 "SerialPort" "received" "LSerialPort$Ring;") (by decide +kernel)
  have f_25 := hts (.fieldLink RX8 25 "SerialPort" "sending" "LSerialPort$Ring;") (by decide +kernel)
  have f_31 := hts (.fieldLink RX8 31 "SerialPort" "sender" "LSerialPort$Sender;") (by decide +kernel)
  have f_172 := hts (.fieldLink RX8 172 "SerialPort" "rowsOn" "Z") (by decide +kernel)
  have f_176 := hts (.fieldLink RX8 176 "SerialPort" "overrun" "Z") (by decide +kernel)
  have hret : ∀ (u : Int32 × Bool × (Nat → Int32)) (v : Int32) (H : Heap) (locs : List Loc) (pc : Nat) (ls : Array Slot), va_P D vwCl (wX8_tellLineState k_received_cells h_ h_divider h_received h_sending h_sender h_receiver h_modem h_lineIn h_lineOut h_received_cells h_sending_cells v_wanted v_lineControl v_kept v_level v_rowsOn v_emptyUp v_lateUp v_beats v_quietSince v_received_head v_received_size v_received_cells_n v_sending_head v_sending_size v_sender_control v_sender_character v_sender_beat v_sender_busy u) H → va_D A (wX8_tellLineState k_received_cells h_ h_divider h_received h_sending h_sender h_receiver h_modem h_lineIn h_lineOut h_received_cells h_sending_cells v_wanted v_lineControl v_kept v_level v_rowsOn v_emptyUp v_lateUp v_beats v_quietSince v_received_head v_received_size v_received_cells_n v_sending_head v_sending_size v_sender_control v_sender_character v_sender_beat v_sender_busy u) → va_S A s.heap H locs → some u = some u0 → v = u.1 → decode cX8_tellLineState pc = .ok (.ireturn, 1) → W p l e { frames := 4, cells := 0, slots := 0, locals := 84 } s m args below meth c H locs 0 0 (QI below D [(k_received_cells, .int)] (wX8_tellLineState k_received_cells h_ h_divider h_received h_sending h_sender h_receiver h_modem h_lineIn h_lineOut h_received_cells h_sending_cells v_wanted v_lineControl v_kept v_level v_rowsOn v_emptyUp v_lateUp v_beats v_quietSince v_received_head v_received_size v_received_cells_n v_sending_head v_sending_size v_sender_control v_sender_character v_sender_beat v_sender_busy u0) (u0.1) args s A) (F0 m pc ls [.int v]) := fun u v H locs pc ls h1 h2 h3 h4 h5 h6 => rI (wf := wX8_tellLineState k_received_cells h_ h_divider h_received h_sending h_sender h_receiver h_modem h_lineIn h_lineOut h_received_cells h_sending_cells v_wanted v_lineControl v_kept v_level v_rowsOn v_emptyUp v_lateUp v_beats v_quietSince v_received_head v_received_size v_received_cells_n v_sending_head v_sending_size v_sender_control v_sender_character v_sender_beat v_sender_busy) (rf := fun u => u.1) hx hb hr hlocks hK h1 h2 h3 h4 h5 h6
  have J108 : ∀ (s0 : Int32) (s1 : Int32) (v_overrun : Bool) (v_received_cells_a : Nat → Int32) (H : Heap) (locs : List Loc) (ls : Array Slot), F_X8_tellLineState_108 v_rowsOn v_received_head v_received_size v_received_cells_n v_sending_size v_sender_busy s0 s1 v_overrun v_received_cells_a = some u0 → lv_has ls 2 [(0, .ref h_)] → va_P D vwCl [oX8 h_ h_divider h_received h_sending h_sender h_receiver h_modem h_lineIn h_lineOut v_wanted v_lineControl v_kept v_level v_rowsOn v_overrun v_emptyUp v_lateUp v_beats v_quietSince, oX5 h_received h_received_cells v_received_head v_received_size, aI h_received_cells k_received_cells v_received_cells_n v_received_cells_a, oX5 h_sending h_sending_cells v_sending_head v_sending_size, oX6 h_sender v_sender_control v_sender_character v_sender_beat v_sender_busy] H → va_D A [oX8 h_ h_divider h_received h_sending h_sender h_receiver h_modem h_lineIn h_lineOut v_wanted v_lineControl v_kept v_level v_rowsOn v_overrun v_emptyUp v_lateUp v_beats v_quietSince, oX5 h_received h_received_cells v_received_head v_received_size, aI h_received_cells k_received_cells v_received_cells_n v_received_cells_a, oX5 h_sending h_sending_cells v_sending_head v_sending_size, oX6 h_sender v_sender_control v_sender_character v_sender_beat v_sender_busy] → va_S A s.heap H locs → W p l e { frames := 4, cells := 0, slots := 0, locals := 84 } s m args below meth c H locs 0 0 (QI below D [(k_received_cells, .int)] (wX8_tellLineState k_received_cells h_ h_divider h_received h_sending h_sender h_receiver h_modem h_lineIn h_lineOut h_received_cells h_sending_cells v_wanted v_lineControl v_kept v_level v_rowsOn v_emptyUp v_lateUp v_beats v_quietSince v_received_head v_received_size v_received_cells_n v_sending_head v_sending_size v_sender_control v_sender_character v_sender_beat v_sender_busy u0) (u0.1) args s A) (F0 m 108 ls [.int s1, .int s0]) := by
    intro s0 s1 v_overrun v_received_cells_a H locs ls hF hl hP hD hS
    unfold F_X8_tellLineState_108 at hF
    refine lv_ior hx hb dX8_tellLineState_108 ?_
    refine lv_topi (fun x1 ex1 => ?_)
    replace hF := lt1_x ex1 hF
    refine lv_istore_n (lv' := [(1, .int x1), (0, .ref h_)]) hx hb dX8_tellLineState_109 rfl hl (Nat.le_of_ble_eq_true rfl) rfl (fun ls hl => ?_)
    refine lv_aload_n hx hb dX8_tellLineState_110 rfl (lv_at hl 1 rfl) ?_
    refine lv_iconst (v := 0) hx hb dX8_tellLineState_111 (by decide) ?_
    refine pf (ci := 7) (v := .int (bI false)) (ty := .boolean) (C := RX8) (T := TX8) (N := 18) (ws' := [oX8 h_ h_divider h_received h_sending h_sender h_receiver h_modem h_lineIn h_lineOut v_wanted v_lineControl v_kept v_level v_rowsOn false v_emptyUp v_lateUp v_beats v_quietSince, oX5 h_received h_received_cells v_received_head v_received_size, aI h_received_cells k_received_cells v_received_cells_n v_received_cells_a, oX5 h_sending h_sending_cells v_sending_head v_sending_size, oX6 h_sender v_sender_control v_sender_character v_sender_beat v_sender_busy]) hx hb hts i_X8 tyX8_ok nmX8 hown hK hP hD hS 0 rfl rfl 13 (Nat.le_of_ble_eq_true rfl) f_176 rfl rfl (by decide +kernel) (nar_bI false) (fit_bI false) (Nat.le_of_ble_eq_true rfl) rfl dX8_tellLineState_112 (fun H locs hP hD hS => ?_)
    refine lv_aload_n hx hb dX8_tellLineState_115 rfl (lv_at hl 1 rfl) ?_
    refine va_get (D := D) (ci := 7) (v := .ref h_received) (C := RX8) (T := TX8) (N := 18) hx hb hts i_X8 hown hK hP 0 rfl rfl 1 (Nat.le_of_ble_eq_true rfl) f_21 (fun _ h9 => h9) rfl dX8_tellLineState_116 ?_
    refine lv_aload_n hx hb dX8_tellLineState_119 rfl (lv_at hl 1 rfl) ?_
    refine va_get (D := D) (ci := 7) (v := .ref h_received) (C := RX8) (T := TX8) (N := 18) hx hb hts i_X8 hown hK hP 0 rfl rfl 1 (Nat.le_of_ble_eq_true rfl) f_21 (fun _ h9 => h9) rfl dX8_tellLineState_120 ?_
    obtain ⟨u2, hu2, hF⟩ := bd_el hF
    refine cVI (q0 := 1) (ci := 5) (As := []) (rest := [.ref h_received]) (wr := [oX8 h_ h_divider h_received h_sending h_sender h_receiver h_modem h_lineIn h_lineOut v_wanted v_lineControl v_kept v_level v_rowsOn false v_emptyUp v_lateUp v_beats v_quietSince, oX5 h_sending h_sending_cells v_sending_head v_sending_size, oX6 h_sender v_sender_control v_sender_character v_sender_beat v_sender_busy]) (ws' := [oX8 h_ h_divider h_received h_sending h_sender h_receiver h_modem h_lineIn h_lineOut v_wanted v_lineControl v_kept v_level v_rowsOn false v_emptyUp v_lateUp v_beats v_quietSince, oX5 h_received h_received_cells v_received_head v_received_size, aI h_received_cells k_received_cells v_received_cells_n v_received_cells_a, oX5 h_sending h_sending_cells v_sending_head v_sending_size, oX6 h_sender v_sender_control v_sender_character v_sender_beat v_sender_busy]) (rv := u2) ⟨hx, hb, hml, hown, hts⟩ (mX5_first D k_received_cells h_received h_received_cells v_received_head v_received_size v_received_cells_n v_received_cells_a u2 hu2) (cwV 0 hts gX8_tellLineState_X5_first rfl rfl rfl (by decide +kernel) ⟨Nat.le_of_ble_eq_true rfl, Nat.le_of_ble_eq_true rfl⟩) hK hP hD hS hA [0] [1, 2] [0, 3, 4] [0, 3, 4, 1, 2] rfl rfl rfl rfl rfl rfl rfl rfl rfl hl.1 rfl (Nat.le_of_ble_eq_true rfl) rfl dX8_tellLineState_123 ⟨Nat.le_refl _, Nat.le_refl _⟩ (fun H locs hP hD hS => ?_)
    refine lv_sipush (v := 255) hx hb dX8_tellLineState_126 (by decide) ?_
    refine lv_iand hx hb dX8_tellLineState_129 ?_
    obtain ⟨u3, hu3, hF⟩ := bd_el hF
    refine cVV (q0 := 1) (ci := 5) (As := [.int (u2 &&& 255)]) (rest := []) (wr := [oX8 h_ h_divider h_received h_sending h_sender h_receiver h_modem h_lineIn h_lineOut v_wanted v_lineControl v_kept v_level v_rowsOn false v_emptyUp v_lateUp v_beats v_quietSince, oX5 h_sending h_sending_cells v_sending_head v_sending_size, oX6 h_sender v_sender_control v_sender_character v_sender_beat v_sender_busy]) (ws' := [oX8 h_ h_divider h_received h_sending h_sender h_receiver h_modem h_lineIn h_lineOut v_wanted v_lineControl v_kept v_level v_rowsOn false v_emptyUp v_lateUp v_beats v_quietSince, oX5 h_received h_received_cells v_received_head v_received_size, aI h_received_cells k_received_cells v_received_cells_n u3, oX5 h_sending h_sending_cells v_sending_head v_sending_size, oX6 h_sender v_sender_control v_sender_character v_sender_beat v_sender_busy]) ⟨hx, hb, hml, hown, hts⟩ (mX5_setFirst D k_received_cells h_received h_received_cells v_received_head v_received_size v_received_cells_n v_received_cells_a (u2 &&& 255) u3 hu3) (cwV 1 hts gX8_tellLineState_X5_setFirst rfl rfl rfl (by decide +kernel) ⟨Nat.le_of_ble_eq_true rfl, Nat.le_of_ble_eq_true rfl⟩) hK hP hD hS hA [0] [1, 2] [0, 3, 4] [0, 3, 4, 1, 2] rfl rfl rfl rfl rfl rfl rfl rfl rfl hl.1 rfl (Nat.le_of_ble_eq_true rfl) dX8_tellLineState_130 ⟨Nat.le_refl _, Nat.le_refl _⟩ (fun H locs hP hD hS => ?_)
    refine lv_iload_n hx hb dX8_tellLineState_133 rfl (lv_at hl 0 rfl) ?_
    exact hret (x1, false, u3) x1 _ _ 134 _ hP hD hS hF rfl dX8_tellLineState_134
  have J84 : ∀ (s0 : Int32) (s1 : Int32) (v_overrun : Bool) (v_received_cells_a : Nat → Int32) (H : Heap) (locs : List Loc) (ls : Array Slot), F_X8_tellLineState_84 v_rowsOn v_received_head v_received_size v_received_cells_n v_sending_size v_sender_busy s0 s1 v_overrun v_received_cells_a = some u0 → lv_has ls 2 [(0, .ref h_)] → va_P D vwCl [oX8 h_ h_divider h_received h_sending h_sender h_receiver h_modem h_lineIn h_lineOut v_wanted v_lineControl v_kept v_level v_rowsOn v_overrun v_emptyUp v_lateUp v_beats v_quietSince, oX5 h_received h_received_cells v_received_head v_received_size, aI h_received_cells k_received_cells v_received_cells_n v_received_cells_a, oX5 h_sending h_sending_cells v_sending_head v_sending_size, oX6 h_sender v_sender_control v_sender_character v_sender_beat v_sender_busy] H → va_D A [oX8 h_ h_divider h_received h_sending h_sender h_receiver h_modem h_lineIn h_lineOut v_wanted v_lineControl v_kept v_level v_rowsOn v_overrun v_emptyUp v_lateUp v_beats v_quietSince, oX5 h_received h_received_cells v_received_head v_received_size, aI h_received_cells k_received_cells v_received_cells_n v_received_cells_a, oX5 h_sending h_sending_cells v_sending_head v_sending_size, oX6 h_sender v_sender_control v_sender_character v_sender_beat v_sender_busy] → va_S A s.heap H locs → W p l e { frames := 4, cells := 0, slots := 0, locals := 84 } s m args below meth c H locs 0 0 (QI below D [(k_received_cells, .int)] (wX8_tellLineState k_received_cells h_ h_divider h_received h_sending h_sender h_receiver h_modem h_lineIn h_lineOut h_received_cells h_sending_cells v_wanted v_lineControl v_kept v_level v_rowsOn v_emptyUp v_lateUp v_beats v_quietSince v_received_head v_received_size v_received_cells_n v_sending_head v_sending_size v_sender_control v_sender_character v_sender_beat v_sender_busy u0) (u0.1) args s A) (F0 m 84 ls [.int s1, .int s0]) := by
    intro s0 s1 v_overrun v_received_cells_a H locs ls hF hl hP hD hS
    unfold F_X8_tellLineState_84 at hF
    refine lv_ior hx hb dX8_tellLineState_84 ?_
    refine lv_topi (fun x4 ex4 => ?_)
    replace hF := lt1_x ex4 hF
    refine lv_istore_n (lv' := [(1, .int x4), (0, .ref h_)]) hx hb dX8_tellLineState_85 rfl hl (Nat.le_of_ble_eq_true rfl) rfl (fun ls hl => ?_)
    refine lv_iload_n hx hb dX8_tellLineState_86 rfl (lv_at hl 0 rfl) ?_
    refine lv_aload_n hx hb dX8_tellLineState_87 rfl (lv_at hl 1 rfl) ?_
    refine va_get (D := D) (ci := 7) (v := .int (bI v_rowsOn)) (C := RX8) (T := TX8) (N := 18) hx hb hts i_X8 hown hK hP 0 rfl rfl 12 (Nat.le_of_ble_eq_true rfl) f_172 (fun _ h9 => h9) rfl dX8_tellLineState_88 ?_
    refine lv_if_eq (tgt := 107) hx hb dX8_tellLineState_91 (by decide) (fun c5 => ?_) (fun c5 => ?_)
    · replace hF := bt_f (bI_0 c5) hF
      refine lv_iconst (v := 0) hx hb dX8_tellLineState_107 (by decide) ?_
      exact J108 x4 0 v_overrun v_received_cells_a _ _ _ hF (lv_sub hl [1] rfl) hP hD hS
    · replace hF := bt_t (bI_n0 c5) hF
      refine lv_aload_n hx hb dX8_tellLineState_94 rfl (lv_at hl 1 rfl) ?_
      obtain ⟨u6, hu6, hF⟩ := bd_el hF
      refine cVI (q0 := 0) (ci := 7) (As := []) (rest := [.int x4]) (wr := [oX5 h_sending h_sending_cells v_sending_head v_sending_size, oX6 h_sender v_sender_control v_sender_character v_sender_beat v_sender_busy]) (ws' := [oX8 h_ h_divider h_received h_sending h_sender h_receiver h_modem h_lineIn h_lineOut v_wanted v_lineControl v_kept v_level v_rowsOn v_overrun v_emptyUp v_lateUp v_beats v_quietSince, oX5 h_received h_received_cells v_received_head v_received_size, aI h_received_cells k_received_cells v_received_cells_n v_received_cells_a, oX5 h_sending h_sending_cells v_sending_head v_sending_size, oX6 h_sender v_sender_control v_sender_character v_sender_beat v_sender_busy]) (rv := bI u6) ⟨hx, hb, hml, hown, hts⟩ (mX8_someFault D k_received_cells h_ h_divider h_received h_sending h_sender h_receiver h_modem h_lineIn h_lineOut h_received_cells v_wanted v_lineControl v_kept v_level v_rowsOn v_overrun v_emptyUp v_lateUp v_beats v_quietSince v_received_head v_received_size v_received_cells_n v_received_cells_a u6 hu6) (cwV 0 hts gX8_tellLineState_X8_someFault rfl rfl rfl (by decide +kernel) ⟨Nat.le_of_ble_eq_true rfl, Nat.le_of_ble_eq_true rfl⟩) hK hP hD hS hA [0] [0, 1, 2] [3, 4] [2, 3, 4, 0, 1] rfl rfl rfl rfl rfl rfl rfl rfl rfl hl.1 rfl (Nat.le_of_ble_eq_true rfl) rfl dX8_tellLineState_95 ⟨Nat.le_refl _, Nat.le_refl _⟩ (fun H locs hP hD hS => ?_)
      refine lv_if_eq (tgt := 107) hx hb dX8_tellLineState_98 (by decide) (fun c7 => ?_) (fun c7 => ?_)
      · replace hF := bt_f (bI_0 c7) hF
        refine lv_iconst (v := 0) hx hb dX8_tellLineState_107 (by decide) ?_
        exact J108 x4 0 v_overrun v_received_cells_a _ _ _ hF (lv_sub hl [1] rfl) hP hD hS
      · replace hF := bt_t (bI_n0 c7) hF
        refine lv_sipush (v := 128) hx hb dX8_tellLineState_101 (by decide) ?_
        refine lv_goto (tgt := 108) hx hb dX8_tellLineState_104 (by decide) ?_
        exact J108 x4 128 v_overrun v_received_cells_a _ _ _ hF (lv_sub hl [1] rfl) hP hD hS
  have J55 : ∀ (s0 : Int32) (s1 : Int32) (v_overrun : Bool) (v_received_cells_a : Nat → Int32) (H : Heap) (locs : List Loc) (ls : Array Slot), F_X8_tellLineState_55 v_rowsOn v_received_head v_received_size v_received_cells_n v_sending_size v_sender_busy s0 s1 v_overrun v_received_cells_a = some u0 → lv_has ls 2 [(0, .ref h_)] → va_P D vwCl [oX8 h_ h_divider h_received h_sending h_sender h_receiver h_modem h_lineIn h_lineOut v_wanted v_lineControl v_kept v_level v_rowsOn v_overrun v_emptyUp v_lateUp v_beats v_quietSince, oX5 h_received h_received_cells v_received_head v_received_size, aI h_received_cells k_received_cells v_received_cells_n v_received_cells_a, oX5 h_sending h_sending_cells v_sending_head v_sending_size, oX6 h_sender v_sender_control v_sender_character v_sender_beat v_sender_busy] H → va_D A [oX8 h_ h_divider h_received h_sending h_sender h_receiver h_modem h_lineIn h_lineOut v_wanted v_lineControl v_kept v_level v_rowsOn v_overrun v_emptyUp v_lateUp v_beats v_quietSince, oX5 h_received h_received_cells v_received_head v_received_size, aI h_received_cells k_received_cells v_received_cells_n v_received_cells_a, oX5 h_sending h_sending_cells v_sending_head v_sending_size, oX6 h_sender v_sender_control v_sender_character v_sender_beat v_sender_busy] → va_S A s.heap H locs → W p l e { frames := 4, cells := 0, slots := 0, locals := 84 } s m args below meth c H locs 0 0 (QI below D [(k_received_cells, .int)] (wX8_tellLineState k_received_cells h_ h_divider h_received h_sending h_sender h_receiver h_modem h_lineIn h_lineOut h_received_cells h_sending_cells v_wanted v_lineControl v_kept v_level v_rowsOn v_emptyUp v_lateUp v_beats v_quietSince v_received_head v_received_size v_received_cells_n v_sending_head v_sending_size v_sender_control v_sender_character v_sender_beat v_sender_busy u0) (u0.1) args s A) (F0 m 55 ls [.int s1, .int s0]) := by
    intro s0 s1 v_overrun v_received_cells_a H locs ls hF hl hP hD hS
    unfold F_X8_tellLineState_55 at hF
    refine lv_ior hx hb dX8_tellLineState_55 ?_
    refine lv_topi (fun x8 ex8 => ?_)
    replace hF := lt1_x ex8 hF
    refine lv_istore_n (lv' := [(1, .int x8), (0, .ref h_)]) hx hb dX8_tellLineState_56 rfl hl (Nat.le_of_ble_eq_true rfl) rfl (fun ls hl => ?_)
    refine lv_iload_n hx hb dX8_tellLineState_57 rfl (lv_at hl 0 rfl) ?_
    refine lv_aload_n hx hb dX8_tellLineState_58 rfl (lv_at hl 1 rfl) ?_
    refine va_get (D := D) (ci := 7) (v := .ref h_sending) (C := RX8) (T := TX8) (N := 18) hx hb hts i_X8 hown hK hP 0 rfl rfl 2 (Nat.le_of_ble_eq_true rfl) f_25 (fun _ h9 => h9) rfl dX8_tellLineState_59 ?_
    obtain ⟨u9, hu9, hF⟩ := bd_el hF
    refine cVI (q0 := 3) (ci := 5) (As := []) (rest := [.int x8]) (wr := [oX8 h_ h_divider h_received h_sending h_sender h_receiver h_modem h_lineIn h_lineOut v_wanted v_lineControl v_kept v_level v_rowsOn v_overrun v_emptyUp v_lateUp v_beats v_quietSince, oX5 h_received h_received_cells v_received_head v_received_size, aI h_received_cells k_received_cells v_received_cells_n v_received_cells_a, oX6 h_sender v_sender_control v_sender_character v_sender_beat v_sender_busy]) (ws' := [oX8 h_ h_divider h_received h_sending h_sender h_receiver h_modem h_lineIn h_lineOut v_wanted v_lineControl v_kept v_level v_rowsOn v_overrun v_emptyUp v_lateUp v_beats v_quietSince, oX5 h_received h_received_cells v_received_head v_received_size, aI h_received_cells k_received_cells v_received_cells_n v_received_cells_a, oX5 h_sending h_sending_cells v_sending_head v_sending_size, oX6 h_sender v_sender_control v_sender_character v_sender_beat v_sender_busy]) (rv := bI u9) ⟨hx, hb, hml, hown, hts⟩ (mX5_isEmpty D h_sending h_sending_cells v_sending_head v_sending_size u9 hu9) (cwV 0 hts gX8_tellLineState_X5_isEmpty rfl rfl rfl (by decide +kernel) ⟨Nat.le_of_ble_eq_true rfl, Nat.le_of_ble_eq_true rfl⟩) hK hP hD hS hA [] [3] [0, 1, 2, 4] [0, 1, 2, 4, 3] rfl rfl rfl rfl rfl rfl rfl rfl rfl hl.1 rfl (Nat.le_of_ble_eq_true rfl) rfl dX8_tellLineState_62 ⟨Nat.le_refl _, Nat.le_refl _⟩ (fun H locs hP hD hS => ?_)
    refine lv_if_eq (tgt := 83) hx hb dX8_tellLineState_65 (by decide) (fun c10 => ?_) (fun c10 => ?_)
    · replace hF := bt_f (bI_0 c10) hF
      refine lv_iconst (v := 0) hx hb dX8_tellLineState_83 (by decide) ?_
      exact J84 x8 0 v_overrun v_received_cells_a _ _ _ hF (lv_sub hl [1] rfl) hP hD hS
    · replace hF := bt_t (bI_n0 c10) hF
      refine lv_aload_n hx hb dX8_tellLineState_68 rfl (lv_at hl 1 rfl) ?_
      refine va_get (D := D) (ci := 7) (v := .ref h_sender) (C := RX8) (T := TX8) (N := 18) hx hb hts i_X8 hown hK hP 0 rfl rfl 3 (Nat.le_of_ble_eq_true rfl) f_31 (fun _ h9 => h9) rfl dX8_tellLineState_69 ?_
      obtain ⟨u11, hu11, hF⟩ := bd_el hF
      refine cVI (q0 := 4) (ci := 6) (As := []) (rest := [.int x8]) (wr := [oX8 h_ h_divider h_received h_sending h_sender h_receiver h_modem h_lineIn h_lineOut v_wanted v_lineControl v_kept v_level v_rowsOn v_overrun v_emptyUp v_lateUp v_beats v_quietSince, oX5 h_received h_received_cells v_received_head v_received_size, aI h_received_cells k_received_cells v_received_cells_n v_received_cells_a, oX5 h_sending h_sending_cells v_sending_head v_sending_size]) (ws' := [oX8 h_ h_divider h_received h_sending h_sender h_receiver h_modem h_lineIn h_lineOut v_wanted v_lineControl v_kept v_level v_rowsOn v_overrun v_emptyUp v_lateUp v_beats v_quietSince, oX5 h_received h_received_cells v_received_head v_received_size, aI h_received_cells k_received_cells v_received_cells_n v_received_cells_a, oX5 h_sending h_sending_cells v_sending_head v_sending_size, oX6 h_sender v_sender_control v_sender_character v_sender_beat v_sender_busy]) (rv := bI u11) ⟨hx, hb, hml, hown, hts⟩ (mX6_isBusy D h_sender v_sender_control v_sender_character v_sender_beat v_sender_busy u11 hu11) (cwV 0 hts gX8_tellLineState_X6_isBusy rfl rfl rfl (by decide +kernel) ⟨Nat.le_of_ble_eq_true rfl, Nat.le_of_ble_eq_true rfl⟩) hK hP hD hS hA [] [4] [0, 1, 2, 3] [0, 1, 2, 3, 4] rfl rfl rfl rfl rfl rfl rfl rfl rfl hl.1 rfl (Nat.le_of_ble_eq_true rfl) rfl dX8_tellLineState_72 ⟨Nat.le_refl _, Nat.le_refl _⟩ (fun H locs hP hD hS => ?_)
      refine lv_if_ne (tgt := 83) hx hb dX8_tellLineState_75 (by decide) (fun c12 => ?_) (fun c12 => ?_)
      · replace hF := bt_t (bI_n0 c12) hF
        refine lv_iconst (v := 0) hx hb dX8_tellLineState_83 (by decide) ?_
        exact J84 x8 0 v_overrun v_received_cells_a _ _ _ hF (lv_sub hl [1] rfl) hP hD hS
      · replace hF := bt_f (bI_0 c12) hF
        refine lv_bipush (v := 64) hx hb dX8_tellLineState_78 (by decide) ?_
        refine lv_goto (tgt := 84) hx hb dX8_tellLineState_80 (by decide) ?_
        exact J84 x8 64 v_overrun v_received_cells_a _ _ _ hF (lv_sub hl [1] rfl) hP hD hS
  have J36 : ∀ (s0 : Int32) (s1 : Int32) (v_overrun : Bool) (v_received_cells_a : Nat → Int32) (H : Heap) (locs : List Loc) (ls : Array Slot), F_X8_tellLineState_36 v_rowsOn v_received_head v_received_size v_received_cells_n v_sending_size v_sender_busy s0 s1 v_overrun v_received_cells_a = some u0 → lv_has ls 2 [(0, .ref h_)] → va_P D vwCl [oX8 h_ h_divider h_received h_sending h_sender h_receiver h_modem h_lineIn h_lineOut v_wanted v_lineControl v_kept v_level v_rowsOn v_overrun v_emptyUp v_lateUp v_beats v_quietSince, oX5 h_received h_received_cells v_received_head v_received_size, aI h_received_cells k_received_cells v_received_cells_n v_received_cells_a, oX5 h_sending h_sending_cells v_sending_head v_sending_size, oX6 h_sender v_sender_control v_sender_character v_sender_beat v_sender_busy] H → va_D A [oX8 h_ h_divider h_received h_sending h_sender h_receiver h_modem h_lineIn h_lineOut v_wanted v_lineControl v_kept v_level v_rowsOn v_overrun v_emptyUp v_lateUp v_beats v_quietSince, oX5 h_received h_received_cells v_received_head v_received_size, aI h_received_cells k_received_cells v_received_cells_n v_received_cells_a, oX5 h_sending h_sending_cells v_sending_head v_sending_size, oX6 h_sender v_sender_control v_sender_character v_sender_beat v_sender_busy] → va_S A s.heap H locs → W p l e { frames := 4, cells := 0, slots := 0, locals := 84 } s m args below meth c H locs 0 0 (QI below D [(k_received_cells, .int)] (wX8_tellLineState k_received_cells h_ h_divider h_received h_sending h_sender h_receiver h_modem h_lineIn h_lineOut h_received_cells h_sending_cells v_wanted v_lineControl v_kept v_level v_rowsOn v_emptyUp v_lateUp v_beats v_quietSince v_received_head v_received_size v_received_cells_n v_sending_head v_sending_size v_sender_control v_sender_character v_sender_beat v_sender_busy u0) (u0.1) args s A) (F0 m 36 ls [.int s1, .int s0]) := by
    intro s0 s1 v_overrun v_received_cells_a H locs ls hF hl hP hD hS
    unfold F_X8_tellLineState_36 at hF
    refine lv_ior hx hb dX8_tellLineState_36 ?_
    refine lv_topi (fun x13 ex13 => ?_)
    replace hF := lt1_x ex13 hF
    refine lv_istore_n (lv' := [(1, .int x13), (0, .ref h_)]) hx hb dX8_tellLineState_37 rfl hl (Nat.le_of_ble_eq_true rfl) rfl (fun ls hl => ?_)
    refine lv_iload_n hx hb dX8_tellLineState_38 rfl (lv_at hl 0 rfl) ?_
    refine lv_aload_n hx hb dX8_tellLineState_39 rfl (lv_at hl 1 rfl) ?_
    refine va_get (D := D) (ci := 7) (v := .ref h_sending) (C := RX8) (T := TX8) (N := 18) hx hb hts i_X8 hown hK hP 0 rfl rfl 2 (Nat.le_of_ble_eq_true rfl) f_25 (fun _ h9 => h9) rfl dX8_tellLineState_40 ?_
    obtain ⟨u14, hu14, hF⟩ := bd_el hF
    refine cVI (q0 := 3) (ci := 5) (As := []) (rest := [.int x13]) (wr := [oX8 h_ h_divider h_received h_sending h_sender h_receiver h_modem h_lineIn h_lineOut v_wanted v_lineControl v_kept v_level v_rowsOn v_overrun v_emptyUp v_lateUp v_beats v_quietSince, oX5 h_received h_received_cells v_received_head v_received_size, aI h_received_cells k_received_cells v_received_cells_n v_received_cells_a, oX6 h_sender v_sender_control v_sender_character v_sender_beat v_sender_busy]) (ws' := [oX8 h_ h_divider h_received h_sending h_sender h_receiver h_modem h_lineIn h_lineOut v_wanted v_lineControl v_kept v_level v_rowsOn v_overrun v_emptyUp v_lateUp v_beats v_quietSince, oX5 h_received h_received_cells v_received_head v_received_size, aI h_received_cells k_received_cells v_received_cells_n v_received_cells_a, oX5 h_sending h_sending_cells v_sending_head v_sending_size, oX6 h_sender v_sender_control v_sender_character v_sender_beat v_sender_busy]) (rv := bI u14) ⟨hx, hb, hml, hown, hts⟩ (mX5_isEmpty D h_sending h_sending_cells v_sending_head v_sending_size u14 hu14) (cwV 0 hts gX8_tellLineState_X5_isEmpty rfl rfl rfl (by decide +kernel) ⟨Nat.le_of_ble_eq_true rfl, Nat.le_of_ble_eq_true rfl⟩) hK hP hD hS hA [] [3] [0, 1, 2, 4] [0, 1, 2, 4, 3] rfl rfl rfl rfl rfl rfl rfl rfl rfl hl.1 rfl (Nat.le_of_ble_eq_true rfl) rfl dX8_tellLineState_43 ⟨Nat.le_refl _, Nat.le_refl _⟩ (fun H locs hP hD hS => ?_)
    refine lv_if_eq (tgt := 54) hx hb dX8_tellLineState_46 (by decide) (fun c15 => ?_) (fun c15 => ?_)
    · replace hF := bt_f (bI_0 c15) hF
      refine lv_iconst (v := 0) hx hb dX8_tellLineState_54 (by decide) ?_
      exact J55 x13 0 v_overrun v_received_cells_a _ _ _ hF (lv_sub hl [1] rfl) hP hD hS
    · replace hF := bt_t (bI_n0 c15) hF
      refine lv_bipush (v := 32) hx hb dX8_tellLineState_49 (by decide) ?_
      refine lv_goto (tgt := 55) hx hb dX8_tellLineState_51 (by decide) ?_
      exact J55 x13 32 v_overrun v_received_cells_a _ _ _ hF (lv_sub hl [1] rfl) hP hD hS
  have J21 : ∀ (s0 : Int32) (s1 : Bool) (v_overrun : Bool) (v_received_cells_a : Nat → Int32) (H : Heap) (locs : List Loc) (ls : Array Slot), F_X8_tellLineState_21 v_rowsOn v_received_head v_received_size v_received_cells_n v_sending_size v_sender_busy s0 s1 v_overrun v_received_cells_a = some u0 → lv_has ls 2 [(0, .ref h_)] → va_P D vwCl [oX8 h_ h_divider h_received h_sending h_sender h_receiver h_modem h_lineIn h_lineOut v_wanted v_lineControl v_kept v_level v_rowsOn v_overrun v_emptyUp v_lateUp v_beats v_quietSince, oX5 h_received h_received_cells v_received_head v_received_size, aI h_received_cells k_received_cells v_received_cells_n v_received_cells_a, oX5 h_sending h_sending_cells v_sending_head v_sending_size, oX6 h_sender v_sender_control v_sender_character v_sender_beat v_sender_busy] H → va_D A [oX8 h_ h_divider h_received h_sending h_sender h_receiver h_modem h_lineIn h_lineOut v_wanted v_lineControl v_kept v_level v_rowsOn v_overrun v_emptyUp v_lateUp v_beats v_quietSince, oX5 h_received h_received_cells v_received_head v_received_size, aI h_received_cells k_received_cells v_received_cells_n v_received_cells_a, oX5 h_sending h_sending_cells v_sending_head v_sending_size, oX6 h_sender v_sender_control v_sender_character v_sender_beat v_sender_busy] → va_S A s.heap H locs → W p l e { frames := 4, cells := 0, slots := 0, locals := 84 } s m args below meth c H locs 0 0 (QI below D [(k_received_cells, .int)] (wX8_tellLineState k_received_cells h_ h_divider h_received h_sending h_sender h_receiver h_modem h_lineIn h_lineOut h_received_cells h_sending_cells v_wanted v_lineControl v_kept v_level v_rowsOn v_emptyUp v_lateUp v_beats v_quietSince v_received_head v_received_size v_received_cells_n v_sending_head v_sending_size v_sender_control v_sender_character v_sender_beat v_sender_busy u0) (u0.1) args s A) (F0 m 21 ls [.int (bI s1), .int s0]) := by
    intro s0 s1 v_overrun v_received_cells_a H locs ls hF hl hP hD hS
    unfold F_X8_tellLineState_21 at hF
    refine lv_ior hx hb dX8_tellLineState_21 ?_
    refine lv_topi (fun x16 ex16 => ?_)
    replace hF := lt1_x ex16 hF
    refine lv_istore_n (lv' := [(1, .int x16), (0, .ref h_)]) hx hb dX8_tellLineState_22 rfl hl (Nat.le_of_ble_eq_true rfl) rfl (fun ls hl => ?_)
    refine lv_iload_n hx hb dX8_tellLineState_23 rfl (lv_at hl 0 rfl) ?_
    refine lv_aload_n hx hb dX8_tellLineState_24 rfl (lv_at hl 1 rfl) ?_
    refine va_get (D := D) (ci := 7) (v := .int (bI v_overrun)) (C := RX8) (T := TX8) (N := 18) hx hb hts i_X8 hown hK hP 0 rfl rfl 13 (Nat.le_of_ble_eq_true rfl) f_176 (fun _ h9 => h9) rfl dX8_tellLineState_25 ?_
    refine lv_if_eq (tgt := 35) hx hb dX8_tellLineState_28 (by decide) (fun c17 => ?_) (fun c17 => ?_)
    · replace hF := bt_f (bI_0 c17) hF
      refine lv_iconst (v := 0) hx hb dX8_tellLineState_35 (by decide) ?_
      exact J36 x16 0 v_overrun v_received_cells_a _ _ _ hF (lv_sub hl [1] rfl) hP hD hS
    · replace hF := bt_t (bI_n0 c17) hF
      refine lv_iconst (v := 2) hx hb dX8_tellLineState_31 (by decide) ?_
      refine lv_goto (tgt := 36) hx hb dX8_tellLineState_32 (by decide) ?_
      exact J36 x16 2 v_overrun v_received_cells_a _ _ _ hF (lv_sub hl [1] rfl) hP hD hS
  unfold F_X8_tellLineState at hF
  refine lv_aload_n hx hb dX8_tellLineState_0 rfl (lv_at hl 0 rfl) ?_
  obtain ⟨u18, hu18, hF⟩ := bd_el hF
  refine cVI (q0 := 0) (ci := 7) (As := []) (rest := []) (wr := [oX5 h_sending h_sending_cells v_sending_head v_sending_size, oX6 h_sender v_sender_control v_sender_character v_sender_beat v_sender_busy]) (ws' := [oX8 h_ h_divider h_received h_sending h_sender h_receiver h_modem h_lineIn h_lineOut v_wanted v_lineControl v_kept v_level v_rowsOn v_overrun v_emptyUp v_lateUp v_beats v_quietSince, oX5 h_received h_received_cells v_received_head v_received_size, aI h_received_cells k_received_cells v_received_cells_n v_received_cells_a, oX5 h_sending h_sending_cells v_sending_head v_sending_size, oX6 h_sender v_sender_control v_sender_character v_sender_beat v_sender_busy]) (rv := u18) ⟨hx, hb, hml, hown, hts⟩ (mX8_firstFaults D k_received_cells h_ h_divider h_received h_sending h_sender h_receiver h_modem h_lineIn h_lineOut h_received_cells v_wanted v_lineControl v_kept v_level v_rowsOn v_overrun v_emptyUp v_lateUp v_beats v_quietSince v_received_head v_received_size v_received_cells_n v_received_cells_a u18 hu18) (cwV 0 hts gX8_tellLineState_X8_firstFaults rfl rfl rfl (by decide +kernel) ⟨Nat.le_of_ble_eq_true rfl, Nat.le_of_ble_eq_true rfl⟩) hK hP hD hS hA [0] [0, 1, 2] [3, 4] [2, 3, 4, 0, 1] rfl rfl rfl rfl rfl rfl rfl rfl rfl hl.1 rfl (Nat.le_of_ble_eq_true rfl) rfl dX8_tellLineState_1 ⟨Nat.le_refl _, Nat.le_refl _⟩ (fun H locs hP hD hS => ?_)
  refine lv_istore_n (lv' := [(1, .int u18), (0, .ref h_)]) hx hb dX8_tellLineState_4 rfl hl (Nat.le_of_ble_eq_true rfl) rfl (fun ls hl => ?_)
  refine lv_iload_n hx hb dX8_tellLineState_5 rfl (lv_at hl 0 rfl) ?_
  refine lv_aload_n hx hb dX8_tellLineState_6 rfl (lv_at hl 1 rfl) ?_
  refine va_get (D := D) (ci := 7) (v := .ref h_received) (C := RX8) (T := TX8) (N := 18) hx hb hts i_X8 hown hK hP 0 rfl rfl 1 (Nat.le_of_ble_eq_true rfl) f_21 (fun _ h9 => h9) rfl dX8_tellLineState_7 ?_
  obtain ⟨u19, hu19, hF⟩ := bd_el hF
  refine cVI (q0 := 1) (ci := 5) (As := []) (rest := [.int u18]) (wr := [oX8 h_ h_divider h_received h_sending h_sender h_receiver h_modem h_lineIn h_lineOut v_wanted v_lineControl v_kept v_level v_rowsOn v_overrun v_emptyUp v_lateUp v_beats v_quietSince, aI h_received_cells k_received_cells v_received_cells_n v_received_cells_a, oX5 h_sending h_sending_cells v_sending_head v_sending_size, oX6 h_sender v_sender_control v_sender_character v_sender_beat v_sender_busy]) (ws' := [oX8 h_ h_divider h_received h_sending h_sender h_receiver h_modem h_lineIn h_lineOut v_wanted v_lineControl v_kept v_level v_rowsOn v_overrun v_emptyUp v_lateUp v_beats v_quietSince, oX5 h_received h_received_cells v_received_head v_received_size, aI h_received_cells k_received_cells v_received_cells_n v_received_cells_a, oX5 h_sending h_sending_cells v_sending_head v_sending_size, oX6 h_sender v_sender_control v_sender_character v_sender_beat v_sender_busy]) (rv := bI u19) ⟨hx, hb, hml, hown, hts⟩ (mX5_isEmpty D h_received h_received_cells v_received_head v_received_size u19 hu19) (cwV 0 hts gX8_tellLineState_X5_isEmpty rfl rfl rfl (by decide +kernel) ⟨Nat.le_of_ble_eq_true rfl, Nat.le_of_ble_eq_true rfl⟩) hK hP hD hS hA [] [1] [0, 2, 3, 4] [0, 4, 1, 2, 3] rfl rfl rfl rfl rfl rfl rfl rfl rfl hl.1 rfl (Nat.le_of_ble_eq_true rfl) rfl dX8_tellLineState_10 ⟨Nat.le_refl _, Nat.le_refl _⟩ (fun H locs hP hD hS => ?_)
  refine lv_if_eq (tgt := 20) hx hb dX8_tellLineState_13 (by decide) (fun c20 => ?_) (fun c20 => ?_)
  · replace hF := bt_f (bI_0 c20) hF
    refine lv_iconst (v := 1) hx hb dX8_tellLineState_20 (by decide) ?_
    exact J21 u18 true v_overrun v_received_cells_a _ _ _ hF (lv_sub hl [1] rfl) hP hD hS
  · replace hF := bt_t (bI_n0 c20) hF
    refine lv_iconst (v := 0) hx hb dX8_tellLineState_16 (by decide) ?_
    refine lv_goto (tgt := 21) hx hb dX8_tellLineState_17 (by decide) ?_
    exact J21 u18 false v_overrun v_received_cells_a _ _ _ hF (lv_sub hl [1] rfl) hP hD hS
