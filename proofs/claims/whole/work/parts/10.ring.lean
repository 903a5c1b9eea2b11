theorem dX5_size_0 : decode cX5_size 0 = .ok (.aload_n 0, 1) := by decide +kernel
theorem dX5_size_1 : decode cX5_size 1 = .ok (.getfield 23, 3) := by decide +kernel
theorem dX5_size_4 : decode cX5_size 4 = .ok (.ireturn, 1) := by decide +kernel
theorem dX5_isEmpty_0 : decode cX5_isEmpty 0 = .ok (.aload_n 0, 1) := by decide +kernel
theorem dX5_isEmpty_1 : decode cX5_isEmpty 1 = .ok (.getfield 23, 3) := by decide +kernel
theorem dX5_isEmpty_4 : decode cX5_isEmpty 4 = .ok (.ifCond .ne 7, 3) := by decide +kernel
theorem dX5_isEmpty_7 : decode cX5_isEmpty 7 = .ok (.iconst 1, 1) := by decide +kernel
theorem dX5_isEmpty_8 : decode cX5_isEmpty 8 = .ok (.goto 4, 3) := by decide +kernel
theorem dX5_isEmpty_11 : decode cX5_isEmpty 11 = .ok (.iconst 0, 1) := by decide +kernel
theorem dX5_isEmpty_12 : decode cX5_isEmpty 12 = .ok (.ireturn, 1) := by decide +kernel
theorem dX5_room_0 : decode cX5_room 0 = .ok (.aload_n 0, 1) := by decide +kernel
theorem dX5_room_1 : decode cX5_room 1 = .ok (.getfield 13, 3) := by decide +kernel
theorem dX5_room_4 : decode cX5_room 4 = .ok (.arraylength, 1) := by decide +kernel
theorem dX5_room_5 : decode cX5_room 5 = .ok (.aload_n 0, 1) := by decide +kernel
theorem dX5_room_6 : decode cX5_room 6 = .ok (.getfield 23, 3) := by decide +kernel
theorem dX5_room_9 : decode cX5_room 9 = .ok (.isub, 1) := by decide +kernel
theorem dX5_room_10 : decode cX5_room 10 = .ok (.ireturn, 1) := by decide +kernel
theorem dX5_clear_0 : decode cX5_clear 0 = .ok (.aload_n 0, 1) := by decide +kernel
theorem dX5_clear_1 : decode cX5_clear 1 = .ok (.iconst 0, 1) := by decide +kernel
theorem dX5_clear_2 : decode cX5_clear 2 = .ok (.putfield 19, 3) := by decide +kernel
theorem dX5_clear_5 : decode cX5_clear 5 = .ok (.aload_n 0, 1) := by decide +kernel
theorem dX5_clear_6 : decode cX5_clear 6 = .ok (.iconst 0, 1) := by decide +kernel
theorem dX5_clear_7 : decode cX5_clear 7 = .ok (.putfield 23, 3) := by decide +kernel
theorem dX5_clear_10 : decode cX5_clear 10 = .ok (.return_, 1) := by decide +kernel
theorem dX5_cellOf_0 : decode cX5_cellOf 0 = .ok (.aload_n 0, 1) := by decide +kernel
theorem dX5_cellOf_1 : decode cX5_cellOf 1 = .ok (.getfield 19, 3) := by decide +kernel
theorem dX5_cellOf_4 : decode cX5_cellOf 4 = .ok (.iload_n 1, 1) := by decide +kernel
theorem dX5_cellOf_5 : decode cX5_cellOf 5 = .ok (.iadd, 1) := by decide +kernel
theorem dX5_cellOf_6 : decode cX5_cellOf 6 = .ok (.istore_n 2, 1) := by decide +kernel
theorem dX5_cellOf_7 : decode cX5_cellOf 7 = .ok (.iload_n 2, 1) := by decide +kernel
theorem dX5_cellOf_8 : decode cX5_cellOf 8 = .ok (.aload_n 0, 1) := by decide +kernel
theorem dX5_cellOf_9 : decode cX5_cellOf 9 = .ok (.getfield 13, 3) := by decide +kernel
theorem dX5_cellOf_12 : decode cX5_cellOf 12 = .ok (.arraylength, 1) := by decide +kernel
theorem dX5_cellOf_13 : decode cX5_cellOf 13 = .ok (.if_icmp .lt 13, 3) := by decide +kernel
theorem dX5_cellOf_16 : decode cX5_cellOf 16 = .ok (.iload_n 2, 1) := by decide +kernel
theorem dX5_cellOf_17 : decode cX5_cellOf 17 = .ok (.aload_n 0, 1) := by decide +kernel
theorem dX5_cellOf_18 : decode cX5_cellOf 18 = .ok (.getfield 13, 3) := by decide +kernel
theorem dX5_cellOf_21 : decode cX5_cellOf 21 = .ok (.arraylength, 1) := by decide +kernel
theorem dX5_cellOf_22 : decode cX5_cellOf 22 = .ok (.isub, 1) := by decide +kernel
theorem dX5_cellOf_23 : decode cX5_cellOf 23 = .ok (.goto 4, 3) := by decide +kernel
theorem dX5_cellOf_26 : decode cX5_cellOf 26 = .ok (.iload_n 2, 1) := by decide +kernel
theorem dX5_cellOf_27 : decode cX5_cellOf 27 = .ok (.ireturn, 1) := by decide +kernel
theorem dX5_at_0 : decode cX5_at 0 = .ok (.aload_n 0, 1) := by decide +kernel
theorem dX5_at_1 : decode cX5_at 1 = .ok (.iload_n 1, 1) := by decide +kernel
theorem dX5_at_2 : decode cX5_at 2 = .ok (.invokevirtual 26, 3) := by decide +kernel
theorem dX5_at_5 : decode cX5_at 5 = .ok (.istore_n 2, 1) := by decide +kernel
theorem dX5_at_6 : decode cX5_at 6 = .ok (.iload_n 1, 1) := by decide +kernel
theorem dX5_at_7 : decode cX5_at 7 = .ok (.ifCond .lt 33, 3) := by decide +kernel
theorem dX5_at_10 : decode cX5_at 10 = .ok (.iload_n 1, 1) := by decide +kernel
theorem dX5_at_11 : decode cX5_at 11 = .ok (.aload_n 0, 1) := by decide +kernel
theorem dX5_at_12 : decode cX5_at 12 = .ok (.getfield 23, 3) := by decide +kernel
theorem dX5_at_15 : decode cX5_at 15 = .ok (.if_icmp .ge 25, 3) := by decide +kernel
theorem dX5_at_18 : decode cX5_at 18 = .ok (.iload_n 2, 1) := by decide +kernel
theorem dX5_at_19 : decode cX5_at 19 = .ok (.ifCond .lt 21, 3) := by decide +kernel
theorem dX5_at_22 : decode cX5_at 22 = .ok (.iload_n 2, 1) := by decide +kernel
theorem dX5_at_23 : decode cX5_at 23 = .ok (.aload_n 0, 1) := by decide +kernel
theorem dX5_at_24 : decode cX5_at 24 = .ok (.getfield 13, 3) := by decide +kernel
theorem dX5_at_27 : decode cX5_at 27 = .ok (.arraylength, 1) := by decide +kernel
theorem dX5_at_28 : decode cX5_at 28 = .ok (.if_icmp .ge 12, 3) := by decide +kernel
theorem dX5_at_31 : decode cX5_at 31 = .ok (.aload_n 0, 1) := by decide +kernel
theorem dX5_at_32 : decode cX5_at 32 = .ok (.getfield 13, 3) := by decide +kernel
theorem dX5_at_35 : decode cX5_at 35 = .ok (.iload_n 2, 1) := by decide +kernel
theorem dX5_at_36 : decode cX5_at 36 = .ok (.iaload, 1) := by decide +kernel
theorem dX5_at_37 : decode cX5_at 37 = .ok (.goto 4, 3) := by decide +kernel
theorem dX5_at_40 : decode cX5_at 40 = .ok (.iconst 0, 1) := by decide +kernel
theorem dX5_at_41 : decode cX5_at 41 = .ok (.ireturn, 1) := by decide +kernel
set_option maxRecDepth 20000 in
theorem ggX5_at_X5_cellOf : GoodIn wsX5_at wsX5_cellOf := goodIn_r _ [7, 8, 2, 9, 10, 11] (by decide +kernel) (by decide +kernel)
set_option maxRecDepth 20000 in
theorem gX5_at_X5_cellOf : GoodIn wsX5_at (wsV RX5 26 RX5 yX5_cellOf wsX5_cellOf) := goodIn_app (goodIn_of _ (by decide +kernel)) ggX5_at_X5_cellOf
theorem dX5_first_0 : decode cX5_first 0 = .ok (.aload_n 0, 1) := by decide +kernel
theorem dX5_first_1 : decode cX5_first 1 = .ok (.iconst 0, 1) := by decide +kernel
theorem dX5_first_2 : decode cX5_first 2 = .ok (.invokevirtual 30, 3) := by decide +kernel
theorem dX5_first_5 : decode cX5_first 5 = .ok (.ireturn, 1) := by decide +kernel
set_option maxRecDepth 20000 in
theorem ggX5_first_X5_at : GoodIn wsX5_first wsX5_at := goodIn_r _ [5, 6, 7, 8, 9, 10, 4, 11, 12, 13, 14, 15] (by decide +kernel) (by decide +kernel)
set_option maxRecDepth 20000 in
theorem gX5_first_X5_at : GoodIn wsX5_first (wsV RX5 30 RX5 yX5_at wsX5_at) := goodIn_app (goodIn_of _ (by decide +kernel)) ggX5_first_X5_at
theorem dX5_setAt_0 : decode cX5_setAt 0 = .ok (.aload_n 0, 1) := by decide +kernel
theorem dX5_setAt_1 : decode cX5_setAt 1 = .ok (.iload_n 1, 1) := by decide +kernel
theorem dX5_setAt_2 : decode cX5_setAt 2 = .ok (.invokevirtual 26, 3) := by decide +kernel
theorem dX5_setAt_5 : decode cX5_setAt 5 = .ok (.istore_n 3, 1) := by decide +kernel
theorem dX5_setAt_6 : decode cX5_setAt 6 = .ok (.iload_n 1, 1) := by decide +kernel
theorem dX5_setAt_7 : decode cX5_setAt 7 = .ok (.ifCond .lt 31, 3) := by decide +kernel
theorem dX5_setAt_10 : decode cX5_setAt 10 = .ok (.iload_n 1, 1) := by decide +kernel
theorem dX5_setAt_11 : decode cX5_setAt 11 = .ok (.aload_n 0, 1) := by decide +kernel
theorem dX5_setAt_12 : decode cX5_setAt 12 = .ok (.getfield 23, 3) := by decide +kernel
theorem dX5_setAt_15 : decode cX5_setAt 15 = .ok (.if_icmp .ge 23, 3) := by decide +kernel
theorem dX5_setAt_18 : decode cX5_setAt 18 = .ok (.iload_n 3, 1) := by decide +kernel
theorem dX5_setAt_19 : decode cX5_setAt 19 = .ok (.ifCond .lt 19, 3) := by decide +kernel
theorem dX5_setAt_22 : decode cX5_setAt 22 = .ok (.iload_n 3, 1) := by decide +kernel
theorem dX5_setAt_23 : decode cX5_setAt 23 = .ok (.aload_n 0, 1) := by decide +kernel
theorem dX5_setAt_24 : decode cX5_setAt 24 = .ok (.getfield 13, 3) := by decide +kernel
theorem dX5_setAt_27 : decode cX5_setAt 27 = .ok (.arraylength, 1) := by decide +kernel
theorem dX5_setAt_28 : decode cX5_setAt 28 = .ok (.if_icmp .ge 10, 3) := by decide +kernel
theorem dX5_setAt_31 : decode cX5_setAt 31 = .ok (.aload_n 0, 1) := by decide +kernel
theorem dX5_setAt_32 : decode cX5_setAt 32 = .ok (.getfield 13, 3) := by decide +kernel
theorem dX5_setAt_35 : decode cX5_setAt 35 = .ok (.iload_n 3, 1) := by decide +kernel
theorem dX5_setAt_36 : decode cX5_setAt 36 = .ok (.iload_n 2, 1) := by decide +kernel
theorem dX5_setAt_37 : decode cX5_setAt 37 = .ok (.iastore, 1) := by decide +kernel
theorem dX5_setAt_38 : decode cX5_setAt 38 = .ok (.return_, 1) := by decide +kernel
set_option maxRecDepth 20000 in
theorem ggX5_setAt_X5_cellOf : GoodIn wsX5_setAt wsX5_cellOf := goodIn_r _ [7, 8, 2, 9, 10, 11] (by decide +kernel) (by decide +kernel)
set_option maxRecDepth 20000 in
theorem gX5_setAt_X5_cellOf : GoodIn wsX5_setAt (wsV RX5 26 RX5 yX5_cellOf wsX5_cellOf) := goodIn_app (goodIn_of _ (by decide +kernel)) ggX5_setAt_X5_cellOf
theorem dX5_setFirst_0 : decode cX5_setFirst 0 = .ok (.aload_n 0, 1) := by decide +kernel
theorem dX5_setFirst_1 : decode cX5_setFirst 1 = .ok (.iconst 0, 1) := by decide +kernel
theorem dX5_setFirst_2 : decode cX5_setFirst 2 = .ok (.iload_n 1, 1) := by decide +kernel
theorem dX5_setFirst_3 : decode cX5_setFirst 3 = .ok (.invokevirtual 33, 3) := by decide +kernel
theorem dX5_setFirst_6 : decode cX5_setFirst 6 = .ok (.return_, 1) := by decide +kernel
set_option maxRecDepth 20000 in
theorem ggX5_setFirst_X5_setAt : GoodIn wsX5_setFirst wsX5_setAt := goodIn_r _ [5, 6, 7, 8, 9, 10, 4, 11, 12, 13, 14, 15] (by decide +kernel) (by decide +kernel)
set_option maxRecDepth 20000 in
theorem gX5_setFirst_X5_setAt : GoodIn wsX5_setFirst (wsV RX5 33 RX5 yX5_setAt wsX5_setAt) := goodIn_app (goodIn_of _ (by decide +kernel)) ggX5_setFirst_X5_setAt
theorem dX5_add_0 : decode cX5_add 0 = .ok (.aload_n 0, 1) := by decide +kernel
theorem dX5_add_1 : decode cX5_add 1 = .ok (.getfield 23, 3) := by decide +kernel
theorem dX5_add_4 : decode cX5_add 4 = .ok (.aload_n 0, 1) := by decide +kernel
theorem dX5_add_5 : decode cX5_add 5 = .ok (.getfield 13, 3) := by decide +kernel
theorem dX5_add_8 : decode cX5_add 8 = .ok (.arraylength, 1) := by decide +kernel
theorem dX5_add_9 : decode cX5_add 9 = .ok (.if_icmp .ge 24, 3) := by decide +kernel
theorem dX5_add_12 : decode cX5_add 12 = .ok (.aload_n 0, 1) := by decide +kernel
theorem dX5_add_13 : decode cX5_add 13 = .ok (.dup, 1) := by decide +kernel
theorem dX5_add_14 : decode cX5_add 14 = .ok (.getfield 23, 3) := by decide +kernel
theorem dX5_add_17 : decode cX5_add 17 = .ok (.iconst 1, 1) := by decide +kernel
theorem dX5_add_18 : decode cX5_add 18 = .ok (.iadd, 1) := by decide +kernel
theorem dX5_add_19 : decode cX5_add 19 = .ok (.putfield 23, 3) := by decide +kernel
theorem dX5_add_22 : decode cX5_add 22 = .ok (.aload_n 0, 1) := by decide +kernel
theorem dX5_add_23 : decode cX5_add 23 = .ok (.aload_n 0, 1) := by decide +kernel
theorem dX5_add_24 : decode cX5_add 24 = .ok (.getfield 23, 3) := by decide +kernel
theorem dX5_add_27 : decode cX5_add 27 = .ok (.iconst 1, 1) := by decide +kernel
theorem dX5_add_28 : decode cX5_add 28 = .ok (.isub, 1) := by decide +kernel
theorem dX5_add_29 : decode cX5_add 29 = .ok (.iload_n 1, 1) := by decide +kernel
theorem dX5_add_30 : decode cX5_add 30 = .ok (.invokevirtual 33, 3) := by decide +kernel
theorem dX5_add_33 : decode cX5_add 33 = .ok (.return_, 1) := by decide +kernel
set_option maxRecDepth 20000 in
theorem ggX5_add_X5_setAt : GoodIn wsX5_add wsX5_setAt := goodIn_r _ [7, 1, 2, 8, 9, 10, 6, 11, 12, 13, 14, 15] (by decide +kernel) (by decide +kernel)
set_option maxRecDepth 20000 in
theorem gX5_add_X5_setAt : GoodIn wsX5_add (wsV RX5 33 RX5 yX5_setAt wsX5_setAt) := goodIn_app (goodIn_of _ (by decide +kernel)) ggX5_add_X5_setAt
theorem dX5_dropFirst_0 : decode cX5_dropFirst 0 = .ok (.aload_n 0, 1) := by decide +kernel
theorem dX5_dropFirst_1 : decode cX5_dropFirst 1 = .ok (.getfield 23, 3) := by decide +kernel
theorem dX5_dropFirst_4 : decode cX5_dropFirst 4 = .ok (.ifCond .le 22, 3) := by decide +kernel
theorem dX5_dropFirst_7 : decode cX5_dropFirst 7 = .ok (.aload_n 0, 1) := by decide +kernel
theorem dX5_dropFirst_8 : decode cX5_dropFirst 8 = .ok (.aload_n 0, 1) := by decide +kernel
theorem dX5_dropFirst_9 : decode cX5_dropFirst 9 = .ok (.iconst 1, 1) := by decide +kernel
theorem dX5_dropFirst_10 : decode cX5_dropFirst 10 = .ok (.invokevirtual 26, 3) := by decide +kernel
theorem dX5_dropFirst_13 : decode cX5_dropFirst 13 = .ok (.putfield 19, 3) := by decide +kernel
theorem dX5_dropFirst_16 : decode cX5_dropFirst 16 = .ok (.aload_n 0, 1) := by decide +kernel
theorem dX5_dropFirst_17 : decode cX5_dropFirst 17 = .ok (.dup, 1) := by decide +kernel
theorem dX5_dropFirst_18 : decode cX5_dropFirst 18 = .ok (.getfield 23, 3) := by decide +kernel
theorem dX5_dropFirst_21 : decode cX5_dropFirst 21 = .ok (.iconst 1, 1) := by decide +kernel
theorem dX5_dropFirst_22 : decode cX5_dropFirst 22 = .ok (.isub, 1) := by decide +kernel
theorem dX5_dropFirst_23 : decode cX5_dropFirst 23 = .ok (.putfield 23, 3) := by decide +kernel
theorem dX5_dropFirst_26 : decode cX5_dropFirst 26 = .ok (.return_, 1) := by decide +kernel
set_option maxRecDepth 20000 in
theorem ggX5_dropFirst_X5_cellOf : GoodIn wsX5_dropFirst wsX5_cellOf := goodIn_r _ [7, 2, 8, 9, 10, 11] (by decide +kernel) (by decide +kernel)
set_option maxRecDepth 20000 in
theorem gX5_dropFirst_X5_cellOf : GoodIn wsX5_dropFirst (wsV RX5 26 RX5 yX5_cellOf wsX5_cellOf) := goodIn_app (goodIn_of _ (by decide +kernel)) ggX5_dropFirst_X5_cellOf
def F_X5_size  (v_size : Int32) : Option (Int32) := some v_size
def wX5_size (h_ : Nat) (h_cells : Nat) (v_head : Int32) (v_size : Int32) (_u : Int32) : va_W := [oX5 h_ h_cells v_head v_size]
set_option maxHeartbeats 4000000 in
set_option maxRecDepth 100000 in
theorem mX5_size {l : Launch} (D : va_G) (h_ : Nat) (h_cells : Nat) (v_head : Int32) (v_size : Int32) (u0 : Int32) (hF : F_X5_size v_size = some u0) : MI l yX5_size wsX5_size { frames := 0, cells := 0, slots := 0, locals := 0 } D [] [.ref h_] [oX5 h_ h_cells v_head v_size] (wX5_size h_ h_cells v_head v_size u0) (u0) := by
  refine MI.ofW (cc := cX5_size) (maxL := 1) (ret := (some .int)) (lv := [(0, .ref h_)]) (by decide +kernel) rfl (Nat.le_of_ble_eq_true rfl) rfl ?_
  intro p e s m args below meth c A ls hx hb hr hml hts hown hlocks hA hK hP hD hS hl
  replace hown : s.vm.findClass RX5 = some m.cls := hown
  have i_X5 : ∀ w ∈ wsX50, w ∈ wsX5_size := by decide +kernel
  have f_23 := hts (.fieldLink RX5 23 "SerialPort$Ring" "size" "I") (by decide +kernel)
  have hret : ∀ (u : Int32) (v : Int32) (H : Heap) (locs : List Loc) (pc : Nat) (ls : Array Slot), va_P D vwCl (wX5_size h_ h_cells v_head v_size u) H → va_D A (wX5_size h_ h_cells v_head v_size u) → va_S A s.heap H locs → some u = some u0 → v = u → decode cX5_size pc = .ok (.ireturn, 1) → W p l e { frames := 0, cells := 0, slots := 0, locals := 0 } s m args below meth c H locs 0 0 (QI below D [] (wX5_size h_ h_cells v_head v_size u0) (u0) args s A) (F0 m pc ls [.int v]) := fun u v H locs pc ls h1 h2 h3 h4 h5 h6 => rI (wf := wX5_size h_ h_cells v_head v_size) (rf := fun u => u) hx hb hr hlocks hK h1 h2 h3 h4 h5 h6
  unfold F_X5_size at hF
  refine lv_aload_n hx hb dX5_size_0 rfl (lv_at hl 0 rfl) ?_
  refine va_get (D := D) (ci := 5) (v := .int v_size) (C := RX5) (T := TX5) (N := 3) hx hb hts i_X5 hown hK hP 0 rfl rfl 2 (Nat.le_of_ble_eq_true rfl) f_23 (fun _ h9 => h9) rfl dX5_size_1 ?_
  exact hret v_size v_size _ _ 4 _ hP hD hS hF rfl dX5_size_4
def F_X5_isEmpty  (v_size : Int32) : Option (Bool) := if v_size = 0 then (some true) else (some false)
def wX5_isEmpty (h_ : Nat) (h_cells : Nat) (v_head : Int32) (v_size : Int32) (_u : Bool) : va_W := [oX5 h_ h_cells v_head v_size]
set_option maxHeartbeats 4000000 in
set_option maxRecDepth 100000 in
theorem mX5_isEmpty {l : Launch} (D : va_G) (h_ : Nat) (h_cells : Nat) (v_head : Int32) (v_size : Int32) (u0 : Bool) (hF : F_X5_isEmpty v_size = some u0) : MI l yX5_isEmpty wsX5_isEmpty { frames := 0, cells := 0, slots := 0, locals := 0 } D [] [.ref h_] [oX5 h_ h_cells v_head v_size] (wX5_isEmpty h_ h_cells v_head v_size u0) (bI u0) := by
  refine MI.ofW (cc := cX5_isEmpty) (maxL := 1) (ret := (some .boolean)) (lv := [(0, .ref h_)]) (by decide +kernel) rfl (Nat.le_of_ble_eq_true rfl) rfl ?_
  intro p e s m args below meth c A ls hx hb hr hml hts hown hlocks hA hK hP hD hS hl
  replace hown : s.vm.findClass RX5 = some m.cls := hown
  have i_X5 : ∀ w ∈ wsX50, w ∈ wsX5_isEmpty := by decide +kernel
  have f_23 := hts (.fieldLink RX5 23 "SerialPort$Ring" "size" "I") (by decide +kernel)
  have hret : ∀ (u : Bool) (v : Int32) (H : Heap) (locs : List Loc) (pc : Nat) (ls : Array Slot), va_P D vwCl (wX5_isEmpty h_ h_cells v_head v_size u) H → va_D A (wX5_isEmpty h_ h_cells v_head v_size u) → va_S A s.heap H locs → some u = some u0 → v = bI u → decode cX5_isEmpty pc = .ok (.ireturn, 1) → W p l e { frames := 0, cells := 0, slots := 0, locals := 0 } s m args below meth c H locs 0 0 (QI below D [] (wX5_isEmpty h_ h_cells v_head v_size u0) (bI u0) args s A) (F0 m pc ls [.int v]) := fun u v H locs pc ls h1 h2 h3 h4 h5 h6 => rZ (wf := wX5_isEmpty h_ h_cells v_head v_size) (rf := fun u => u) hx hb hr hlocks hK h1 h2 h3 h4 h5 h6
  unfold F_X5_isEmpty at hF
  refine lv_aload_n hx hb dX5_isEmpty_0 rfl (lv_at hl 0 rfl) ?_
  refine va_get (D := D) (ci := 5) (v := .int v_size) (C := RX5) (T := TX5) (N := 3) hx hb hts i_X5 hown hK hP 0 rfl rfl 2 (Nat.le_of_ble_eq_true rfl) f_23 (fun _ h9 => h9) rfl dX5_isEmpty_1 ?_
  refine lv_if_ne (tgt := 11) hx hb dX5_isEmpty_4 (by decide) (fun c1 => ?_) (fun c1 => ?_)
  · replace hF := it_f c1 hF
    refine lv_iconst (v := 0) hx hb dX5_isEmpty_11 (by decide) ?_
    exact hret false 0 _ _ 12 _ hP hD hS hF rfl dX5_isEmpty_12
  · replace hF := it_t c1 hF
    refine lv_iconst (v := 1) hx hb dX5_isEmpty_7 (by decide) ?_
    refine lv_goto (tgt := 12) hx hb dX5_isEmpty_8 (by decide) ?_
    exact hret true 1 _ _ 12 _ hP hD hS hF rfl dX5_isEmpty_12
def F_X5_room  (v_size : Int32) (v_cells_n : Nat) : Option (Int32) := some ((Int32.ofNat v_cells_n) - v_size)
def wX5_room (k_cells : ClassId) (h_ : Nat) (h_cells : Nat) (v_head : Int32) (v_size : Int32) (v_cells_n : Nat) (v_cells_a : Nat → Int32) (_u : Int32) : va_W := [oX5 h_ h_cells v_head v_size, aI h_cells k_cells v_cells_n v_cells_a]
set_option maxHeartbeats 4000000 in
set_option maxRecDepth 100000 in
theorem mX5_room {l : Launch} (D : va_G) (k_cells : ClassId) (h_ : Nat) (h_cells : Nat) (v_head : Int32) (v_size : Int32) (v_cells_n : Nat) (v_cells_a : Nat → Int32) (u0 : Int32) (hF : F_X5_room v_size v_cells_n = some u0) : MI l yX5_room wsX5_room { frames := 0, cells := 0, slots := 0, locals := 0 } D [(k_cells, .int)] [.ref h_] [oX5 h_ h_cells v_head v_size, aI h_cells k_cells v_cells_n v_cells_a] (wX5_room k_cells h_ h_cells v_head v_size v_cells_n v_cells_a u0) (u0) := by
  refine MI.ofW (cc := cX5_room) (maxL := 1) (ret := (some .int)) (lv := [(0, .ref h_)]) (by decide +kernel) rfl (Nat.le_of_ble_eq_true rfl) rfl ?_
  intro p e s m args below meth c A ls hx hb hr hml hts hown hlocks hA hK hP hD hS hl
  replace hown : s.vm.findClass RX5 = some m.cls := hown
  have i_X5 : ∀ w ∈ wsX50, w ∈ wsX5_room := by decide +kernel
  have f_13 := hts (.fieldLink RX5 13 "SerialPort$Ring" "cells" "[I") (by decide +kernel)
  have f_23 := hts (.fieldLink RX5 23 "SerialPort$Ring" "size" "I") (by decide +kernel)
  have hret : ∀ (u : Int32) (v : Int32) (H : Heap) (locs : List Loc) (pc : Nat) (ls : Array Slot), va_P D vwCl (wX5_room k_cells h_ h_cells v_head v_size v_cells_n v_cells_a u) H → va_D A (wX5_room k_cells h_ h_cells v_head v_size v_cells_n v_cells_a u) → va_S A s.heap H locs → some u = some u0 → v = u → decode cX5_room pc = .ok (.ireturn, 1) → W p l e { frames := 0, cells := 0, slots := 0, locals := 0 } s m args below meth c H locs 0 0 (QI below D [(k_cells, .int)] (wX5_room k_cells h_ h_cells v_head v_size v_cells_n v_cells_a u0) (u0) args s A) (F0 m pc ls [.int v]) := fun u v H locs pc ls h1 h2 h3 h4 h5 h6 => rI (wf := wX5_room k_cells h_ h_cells v_head v_size v_cells_n v_cells_a) (rf := fun u => u) hx hb hr hlocks hK h1 h2 h3 h4 h5 h6
  unfold F_X5_room at hF
  refine lv_aload_n hx hb dX5_room_0 rfl (lv_at hl 0 rfl) ?_
  refine va_get (D := D) (ci := 5) (v := .ref h_cells) (C := RX5) (T := TX5) (N := 3) hx hb hts i_X5 hown hK hP 0 rfl rfl 0 (Nat.le_of_ble_eq_true rfl) f_13 (fun _ h9 => h9) rfl dX5_room_1 ?_
  refine va_alen (v := (Int32.ofNat v_cells_n)) hx hb hK hP 1 0 rfl rfl rfl dX5_room_4 ?_
  refine lv_aload_n hx hb dX5_room_5 rfl (lv_at hl 0 rfl) ?_
  refine va_get (D := D) (ci := 5) (v := .int v_size) (C := RX5) (T := TX5) (N := 3) hx hb hts i_X5 hown hK hP 0 rfl rfl 2 (Nat.le_of_ble_eq_true rfl) f_23 (fun _ h9 => h9) rfl dX5_room_6 ?_
  refine lv_isub hx hb dX5_room_9 ?_
  exact hret ((Int32.ofNat v_cells_n) - v_size) ((Int32.ofNat v_cells_n) - v_size) _ _ 10 _ hP hD hS hF rfl dX5_room_10
def F_X5_clear  (v_head : Int32) (v_size : Int32) : Option (Int32 × Int32) := some (0, 0)
def wX5_clear (h_ : Nat) (h_cells : Nat) (u : Int32 × Int32) : va_W := [oX5 h_ h_cells u.1 u.2]
set_option maxHeartbeats 4000000 in
set_option maxRecDepth 100000 in
theorem mX5_clear {l : Launch} (D : va_G) (h_ : Nat) (h_cells : Nat) (v_head : Int32) (v_size : Int32) (u0 : Int32 × Int32) (hF : F_X5_clear v_head v_size = some u0) : MV l yX5_clear wsX5_clear { frames := 0, cells := 0, slots := 0, locals := 0 } D [] [.ref h_] [oX5 h_ h_cells v_head v_size] (wX5_clear h_ h_cells u0) := by
  refine MV.ofW (cc := cX5_clear) (maxL := 1) (ret := none) (lv := [(0, .ref h_)]) (by decide +kernel) rfl (Nat.le_of_ble_eq_true rfl) rfl ?_
  intro p e s m args below meth c A ls hx hb hr hml hts hown hlocks hA hK hP hD hS hl
  replace hown : s.vm.findClass RX5 = some m.cls := hown
  have i_X5 : ∀ w ∈ wsX50, w ∈ wsX5_clear := by decide +kernel
  have f_19 := hts (.fieldLink RX5 19 "SerialPort$Ring" "head" "I") (by decide +kernel)
  have f_23 := hts (.fieldLink RX5 23 "SerialPort$Ring" "size" "I") (by decide +kernel)
  have hret : ∀ (u : Int32 × Int32) (H : Heap) (locs : List Loc) (pc : Nat) (ls : Array Slot), va_P D vwCl (wX5_clear h_ h_cells u) H → va_D A (wX5_clear h_ h_cells u) → va_S A s.heap H locs → some u = some u0 → decode cX5_clear pc = .ok (.return_, 1) → W p l e { frames := 0, cells := 0, slots := 0, locals := 0 } s m args below meth c H locs 0 0 (QV below D [] (wX5_clear h_ h_cells u0) args s A) (F0 m pc ls []) := fun u H locs pc ls h1 h2 h3 h4 h5 => rV (wf := wX5_clear h_ h_cells) hx hb hr hlocks hK h1 h2 h3 h4 h5
  unfold F_X5_clear at hF
  refine lv_aload_n hx hb dX5_clear_0 rfl (lv_at hl 0 rfl) ?_
  refine lv_iconst (v := 0) hx hb dX5_clear_1 (by decide) ?_
  refine pf (ci := 5) (v := .int 0) (ty := .int) (C := RX5) (T := TX5) (N := 3) (ws' := [oX5 h_ h_cells 0 v_size]) hx hb hts i_X5 tyX5_ok nmX5 hown hK hP hD hS 0 rfl rfl 1 (Nat.le_of_ble_eq_true rfl) f_19 rfl rfl (by decide +kernel) rfl rfl (Nat.le_of_ble_eq_true rfl) rfl dX5_clear_2 (fun H locs hP hD hS => ?_)
  refine lv_aload_n hx hb dX5_clear_5 rfl (lv_at hl 0 rfl) ?_
  refine lv_iconst (v := 0) hx hb dX5_clear_6 (by decide) ?_
  refine pf (ci := 5) (v := .int 0) (ty := .int) (C := RX5) (T := TX5) (N := 3) (ws' := [oX5 h_ h_cells 0 0]) hx hb hts i_X5 tyX5_ok nmX5 hown hK hP hD hS 0 rfl rfl 2 (Nat.le_of_ble_eq_true rfl) f_23 rfl rfl (by decide +kernel) rfl rfl (Nat.le_of_ble_eq_true rfl) rfl dX5_clear_7 (fun H locs hP hD hS => ?_)
  exact hret (0, 0) _ _ 10 _ hP hD hS hF dX5_clear_10
def F_X5_cellOf (p1 : Int32) (v_head : Int32) (v_cells_n : Nat) : Option (Int32) := lt1 (v_head + p1) (fun x1 => if x1 < (Int32.ofNat v_cells_n) then (some x1) else (some (x1 - (Int32.ofNat v_cells_n))))
def wX5_cellOf (k_cells : ClassId) (h_ : Nat) (h_cells : Nat) (v_head : Int32) (v_size : Int32) (v_cells_n : Nat) (v_cells_a : Nat → Int32) (_u : Int32) : va_W := [oX5 h_ h_cells v_head v_size, aI h_cells k_cells v_cells_n v_cells_a]
set_option maxHeartbeats 4000000 in
set_option maxRecDepth 100000 in
theorem mX5_cellOf {l : Launch} (D : va_G) (k_cells : ClassId) (h_ : Nat) (h_cells : Nat) (v_head : Int32) (v_size : Int32) (v_cells_n : Nat) (v_cells_a : Nat → Int32) (p1 : Int32) (u0 : Int32) (hF : F_X5_cellOf p1 v_head v_cells_n = some u0) : MI l yX5_cellOf wsX5_cellOf { frames := 0, cells := 0, slots := 0, locals := 0 } D [(k_cells, .int)] [.ref h_, .int p1] [oX5 h_ h_cells v_head v_size, aI h_cells k_cells v_cells_n v_cells_a] (wX5_cellOf k_cells h_ h_cells v_head v_size v_cells_n v_cells_a u0) (u0) := by
  refine MI.ofW (cc := cX5_cellOf) (maxL := 3) (ret := (some .int)) (lv := [(0, .ref h_), (1, .int p1)]) (by decide +kernel) rfl (Nat.le_of_ble_eq_true rfl) rfl ?_
  intro p e s m args below meth c A ls hx hb hr hml hts hown hlocks hA hK hP hD hS hl
  replace hown : s.vm.findClass RX5 = some m.cls := hown
  have i_X5 : ∀ w ∈ wsX50, w ∈ wsX5_cellOf := by decide +kernel
  have f_13 := hts (.fieldLink RX5 13 "SerialPort$Ring" "cells" "[I") (by decide +kernel)
  have f_19 := hts (.fieldLink RX5 19 "SerialPort$Ring" "head" "I") (by decide +kernel)
  have hret : ∀ (u : Int32) (v : Int32) (H : Heap) (locs : List Loc) (pc : Nat) (ls : Array Slot), va_P D vwCl (wX5_cellOf k_cells h_ h_cells v_head v_size v_cells_n v_cells_a u) H → va_D A (wX5_cellOf k_cells h_ h_cells v_head v_size v_cells_n v_cells_a u) → va_S A s.heap H locs → some u = some u0 → v = u → decode cX5_cellOf pc = .ok (.ireturn, 1) → W p l e { frames := 0, cells := 0, slots := 0, locals := 0 } s m args below meth c H locs 0 0 (QI below D [(k_cells, .int)] (wX5_cellOf k_cells h_ h_cells v_head v_size v_cells_n v_cells_a u0) (u0) args s A) (F0 m pc ls [.int v]) := fun u v H locs pc ls h1 h2 h3 h4 h5 h6 => rI (wf := wX5_cellOf k_cells h_ h_cells v_head v_size v_cells_n v_cells_a) (rf := fun u => u) hx hb hr hlocks hK h1 h2 h3 h4 h5 h6
  unfold F_X5_cellOf at hF
  refine lv_aload_n hx hb dX5_cellOf_0 rfl (lv_at hl 0 rfl) ?_
  refine va_get (D := D) (ci := 5) (v := .int v_head) (C := RX5) (T := TX5) (N := 3) hx hb hts i_X5 hown hK hP 0 rfl rfl 1 (Nat.le_of_ble_eq_true rfl) f_19 (fun _ h9 => h9) rfl dX5_cellOf_1 ?_
  refine lv_iload_n hx hb dX5_cellOf_4 rfl (lv_at hl 1 rfl) ?_
  refine lv_iadd hx hb dX5_cellOf_5 ?_
  refine lv_topi (fun x1 ex1 => ?_)
  replace hF := lt1_x ex1 hF
  refine lv_istore_n (lv' := [(2, .int x1), (0, .ref h_), (1, .int p1)]) hx hb dX5_cellOf_6 rfl hl (Nat.le_of_ble_eq_true rfl) rfl (fun ls hl => ?_)
  refine lv_iload_n hx hb dX5_cellOf_7 rfl (lv_at hl 0 rfl) ?_
  refine lv_aload_n hx hb dX5_cellOf_8 rfl (lv_at hl 1 rfl) ?_
  refine va_get (D := D) (ci := 5) (v := .ref h_cells) (C := RX5) (T := TX5) (N := 3) hx hb hts i_X5 hown hK hP 0 rfl rfl 0 (Nat.le_of_ble_eq_true rfl) f_13 (fun _ h9 => h9) rfl dX5_cellOf_9 ?_
  refine va_alen (v := (Int32.ofNat v_cells_n)) hx hb hK hP 1 0 rfl rfl rfl dX5_cellOf_12 ?_
  refine lv_icmp_lt (tgt := 26) hx hb dX5_cellOf_13 (by decide) (fun c2 => ?_) (fun c2 => ?_)
  · replace hF := it_t c2 hF
    refine lv_iload_n hx hb dX5_cellOf_26 rfl (lv_at hl 0 rfl) ?_
    exact hret x1 x1 _ _ 27 _ hP hD hS hF rfl dX5_cellOf_27
  · replace hF := it_f c2 hF
    refine lv_iload_n hx hb dX5_cellOf_16 rfl (lv_at hl 0 rfl) ?_
    refine lv_aload_n hx hb dX5_cellOf_17 rfl (lv_at hl 1 rfl) ?_
    refine va_get (D := D) (ci := 5) (v := .ref h_cells) (C := RX5) (T := TX5) (N := 3) hx hb hts i_X5 hown hK hP 0 rfl rfl 0 (Nat.le_of_ble_eq_true rfl) f_13 (fun _ h9 => h9) rfl dX5_cellOf_18 ?_
    refine va_alen (v := (Int32.ofNat v_cells_n)) hx hb hK hP 1 0 rfl rfl rfl dX5_cellOf_21 ?_
    refine lv_isub hx hb dX5_cellOf_22 ?_
    refine lv_goto (tgt := 27) hx hb dX5_cellOf_23 (by decide) ?_
    exact hret (x1 - (Int32.ofNat v_cells_n)) (x1 - (Int32.ofNat v_cells_n)) _ _ 27 _ hP hD hS hF rfl dX5_cellOf_27
def F_X5_at (p1 : Int32) (v_head : Int32) (v_size : Int32) (v_cells_n : Nat) (v_cells_a : Nat → Int32) : Option (Int32) := bd (F_X5_cellOf p1 v_head v_cells_n) (fun u1 => if p1 < 0 then (some (0 : Int32)) else (if v_size ≤ p1 then (some (0 : Int32)) else (if u1 < 0 then (some (0 : Int32)) else (if (Int32.ofNat v_cells_n) ≤ u1 then (some (0 : Int32)) else (gd (inR u1 v_cells_n = true) (some (v_cells_a u1.toNatClampNeg)))))))
def wX5_at (k_cells : ClassId) (h_ : Nat) (h_cells : Nat) (v_head : Int32) (v_size : Int32) (v_cells_n : Nat) (v_cells_a : Nat → Int32) (_u : Int32) : va_W := [oX5 h_ h_cells v_head v_size, aI h_cells k_cells v_cells_n v_cells_a]
set_option maxHeartbeats 4000000 in
set_option maxRecDepth 100000 in
theorem mX5_at {l : Launch} (D : va_G) (k_cells : ClassId) (h_ : Nat) (h_cells : Nat) (v_head : Int32) (v_size : Int32) (v_cells_n : Nat) (v_cells_a : Nat → Int32) (p1 : Int32) (u0 : Int32) (hF : F_X5_at p1 v_head v_size v_cells_n v_cells_a = some u0) : MI l yX5_at wsX5_at { frames := 1, cells := 0, slots := 0, locals := 22 } D [(k_cells, .int)] [.ref h_, .int p1] [oX5 h_ h_cells v_head v_size, aI h_cells k_cells v_cells_n v_cells_a] (wX5_at k_cells h_ h_cells v_head v_size v_cells_n v_cells_a u0) (u0) := by
  refine MI.ofW (cc := cX5_at) (maxL := 3) (ret := (some .int)) (lv := [(0, .ref h_), (1, .int p1)]) (by decide +kernel) rfl (Nat.le_of_ble_eq_true rfl) rfl ?_
  intro p e s m args below meth c A ls hx hb hr hml hts hown hlocks hA hK hP hD hS hl
  replace hown : s.vm.findClass RX5 = some m.cls := hown
  have i_X5 : ∀ w ∈ wsX50, w ∈ wsX5_at := by decide +kernel
  have f_13 := hts (.fieldLink RX5 13 "SerialPort$Ring" "cells" "[I") (by decide +kernel)
  have f_23 := hts (.fieldLink RX5 23 "SerialPort$Ring" "size" "I") (by decide +kernel)
  have hret : ∀ (u : Int32) (v : Int32) (H : Heap) (locs : List Loc) (pc : Nat) (ls : Array Slot), va_P D vwCl (wX5_at k_cells h_ h_cells v_head v_size v_cells_n v_cells_a u) H → va_D A (wX5_at k_cells h_ h_cells v_head v_size v_cells_n v_cells_a u) → va_S A s.heap H locs → some u = some u0 → v = u → decode cX5_at pc = .ok (.ireturn, 1) → W p l e { frames := 1, cells := 0, slots := 0, locals := 22 } s m args below meth c H locs 0 0 (QI below D [(k_cells, .int)] (wX5_at k_cells h_ h_cells v_head v_size v_cells_n v_cells_a u0) (u0) args s A) (F0 m pc ls [.int v]) := fun u v H locs pc ls h1 h2 h3 h4 h5 h6 => rI (wf := wX5_at k_cells h_ h_cells v_head v_size v_cells_n v_cells_a) (rf := fun u => u) hx hb hr hlocks hK h1 h2 h3 h4 h5 h6
  unfold F_X5_at at hF
  refine lv_aload_n hx hb dX5_at_0 rfl (lv_at hl 0 rfl) ?_
  refine lv_iload_n hx hb dX5_at_1 rfl (lv_at hl 1 rfl) ?_
  obtain ⟨u1, hu1, hF⟩ := bd_el hF
  refine cVI (q0 := 0) (ci := 5) (As := [.int p1]) (rest := []) (wr := []) (ws' := [oX5 h_ h_cells v_head v_size, aI h_cells k_cells v_cells_n v_cells_a]) (rv := u1) ⟨hx, hb, hml, hown, hts⟩ (mX5_cellOf D k_cells h_ h_cells v_head v_size v_cells_n v_cells_a p1 u1 hu1) (cwV 1 hts gX5_at_X5_cellOf rfl rfl rfl (by decide +kernel) ⟨Nat.le_of_ble_eq_true rfl, Nat.le_of_ble_eq_true rfl⟩) hK hP hD hS hA [0] [0, 1] [] [0, 1] rfl rfl rfl rfl rfl rfl rfl rfl rfl hl.1 rfl (Nat.le_of_ble_eq_true rfl) rfl dX5_at_2 ⟨Nat.le_refl _, Nat.le_refl _⟩ (fun H locs hP hD hS => ?_)
  refine lv_istore_n (lv' := [(2, .int u1), (0, .ref h_), (1, .int p1)]) hx hb dX5_at_5 rfl hl (Nat.le_of_ble_eq_true rfl) rfl (fun ls hl => ?_)
  refine lv_iload_n hx hb dX5_at_6 rfl (lv_at hl 2 rfl) ?_
  refine lv_if_lt (tgt := 40) hx hb dX5_at_7 (by decide) (fun c2 => ?_) (fun c2 => ?_)
  · replace hF := it_t c2 hF
    refine lv_iconst (v := 0) hx hb dX5_at_40 (by decide) ?_
    exact hret (0 : Int32) 0 _ _ 41 _ hP hD hS hF rfl dX5_at_41
  · replace hF := it_f c2 hF
    refine lv_iload_n hx hb dX5_at_10 rfl (lv_at hl 2 rfl) ?_
    refine lv_aload_n hx hb dX5_at_11 rfl (lv_at hl 1 rfl) ?_
    refine va_get (D := D) (ci := 5) (v := .int v_size) (C := RX5) (T := TX5) (N := 3) hx hb hts i_X5 hown hK hP 0 rfl rfl 2 (Nat.le_of_ble_eq_true rfl) f_23 (fun _ h9 => h9) rfl dX5_at_12 ?_
    refine lv_icmp_ge (tgt := 40) hx hb dX5_at_15 (by decide) (fun c3 => ?_) (fun c3 => ?_)
    · replace hF := it_t c3 hF
      refine lv_iconst (v := 0) hx hb dX5_at_40 (by decide) ?_
      exact hret (0 : Int32) 0 _ _ 41 _ hP hD hS hF rfl dX5_at_41
    · replace hF := it_f c3 hF
      refine lv_iload_n hx hb dX5_at_18 rfl (lv_at hl 0 rfl) ?_
      refine lv_if_lt (tgt := 40) hx hb dX5_at_19 (by decide) (fun c4 => ?_) (fun c4 => ?_)
      · replace hF := it_t c4 hF
        refine lv_iconst (v := 0) hx hb dX5_at_40 (by decide) ?_
        exact hret (0 : Int32) 0 _ _ 41 _ hP hD hS hF rfl dX5_at_41
      · replace hF := it_f c4 hF
        refine lv_iload_n hx hb dX5_at_22 rfl (lv_at hl 0 rfl) ?_
        refine lv_aload_n hx hb dX5_at_23 rfl (lv_at hl 1 rfl) ?_
        refine va_get (D := D) (ci := 5) (v := .ref h_cells) (C := RX5) (T := TX5) (N := 3) hx hb hts i_X5 hown hK hP 0 rfl rfl 0 (Nat.le_of_ble_eq_true rfl) f_13 (fun _ h9 => h9) rfl dX5_at_24 ?_
        refine va_alen (v := (Int32.ofNat v_cells_n)) hx hb hK hP 1 0 rfl rfl rfl dX5_at_27 ?_
        refine lv_icmp_ge (tgt := 40) hx hb dX5_at_28 (by decide) (fun c5 => ?_) (fun c5 => ?_)
        · replace hF := it_t c5 hF
          refine lv_iconst (v := 0) hx hb dX5_at_40 (by decide) ?_
          exact hret (0 : Int32) 0 _ _ 41 _ hP hD hS hF rfl dX5_at_41
        · replace hF := it_f c5 hF
          refine lv_aload_n hx hb dX5_at_31 rfl (lv_at hl 1 rfl) ?_
          refine va_get (D := D) (ci := 5) (v := .ref h_cells) (C := RX5) (T := TX5) (N := 3) hx hb hts i_X5 hown hK hP 0 rfl rfl 0 (Nat.le_of_ble_eq_true rfl) f_13 (fun _ h9 => h9) rfl dX5_at_32 ?_
          refine lv_iload_n hx hb dX5_at_35 rfl (lv_at hl 0 rfl) ?_
          obtain ⟨g6, hF⟩ := gd_el hF
          refine va_iald hx hb hK hP 1 0 rfl rfl (inR_in g6) dX5_at_36 ?_
          refine lv_goto (tgt := 41) hx hb dX5_at_37 (by decide) ?_
          exact hret (v_cells_a u1.toNatClampNeg) (v_cells_a u1.toNatClampNeg) _ _ 41 _ hP hD hS hF rfl dX5_at_41
def F_X5_first  (v_head : Int32) (v_size : Int32) (v_cells_n : Nat) (v_cells_a : Nat → Int32) : Option (Int32) := bd (F_X5_at 0 v_head v_size v_cells_n v_cells_a) (fun u1 => some u1)
def wX5_first (k_cells : ClassId) (h_ : Nat) (h_cells : Nat) (v_head : Int32) (v_size : Int32) (v_cells_n : Nat) (v_cells_a : Nat → Int32) (_u : Int32) : va_W := [oX5 h_ h_cells v_head v_size, aI h_cells k_cells v_cells_n v_cells_a]
set_option maxHeartbeats 4000000 in
set_option maxRecDepth 100000 in
theorem mX5_first {l : Launch} (D : va_G) (k_cells : ClassId) (h_ : Nat) (h_cells : Nat) (v_head : Int32) (v_size : Int32) (v_cells_n : Nat) (v_cells_a : Nat → Int32) (u0 : Int32) (hF : F_X5_first v_head v_size v_cells_n v_cells_a = some u0) : MI l yX5_first wsX5_first { frames := 2, cells := 0, slots := 0, locals := 44 } D [(k_cells, .int)] [.ref h_] [oX5 h_ h_cells v_head v_size, aI h_cells k_cells v_cells_n v_cells_a] (wX5_first k_cells h_ h_cells v_head v_size v_cells_n v_cells_a u0) (u0) := by
  refine MI.ofW (cc := cX5_first) (maxL := 1) (ret := (some .int)) (lv := [(0, .ref h_)]) (by decide +kernel) rfl (Nat.le_of_ble_eq_true rfl) rfl ?_
  intro p e s m args below meth c A ls hx hb hr hml hts hown hlocks hA hK hP hD hS hl
  replace hown : s.vm.findClass RX5 = some m.cls := hown
  have hret : ∀ (u : Int32) (v : Int32) (H : Heap) (locs : List Loc) (pc : Nat) (ls : Array Slot), va_P D vwCl (wX5_first k_cells h_ h_cells v_head v_size v_cells_n v_cells_a u) H → va_D A (wX5_first k_cells h_ h_cells v_head v_size v_cells_n v_cells_a u) → va_S A s.heap H locs → some u = some u0 → v = u → decode cX5_first pc = .ok (.ireturn, 1) → W p l e { frames := 2, cells := 0, slots := 0, locals := 44 } s m args below meth c H locs 0 0 (QI below D [(k_cells, .int)] (wX5_first k_cells h_ h_cells v_head v_size v_cells_n v_cells_a u0) (u0) args s A) (F0 m pc ls [.int v]) := fun u v H locs pc ls h1 h2 h3 h4 h5 h6 => rI (wf := wX5_first k_cells h_ h_cells v_head v_size v_cells_n v_cells_a) (rf := fun u => u) hx hb hr hlocks hK h1 h2 h3 h4 h5 h6
  unfold F_X5_first at hF
  refine lv_aload_n hx hb dX5_first_0 rfl (lv_at hl 0 rfl) ?_
  refine lv_iconst (v := 0) hx hb dX5_first_1 (by decide) ?_
  obtain ⟨u1, hu1, hF⟩ := bd_el hF
  refine cVI (q0 := 0) (ci := 5) (As := [.int 0]) (rest := []) (wr := []) (ws' := [oX5 h_ h_cells v_head v_size, aI h_cells k_cells v_cells_n v_cells_a]) (rv := u1) ⟨hx, hb, hml, hown, hts⟩ (mX5_at D k_cells h_ h_cells v_head v_size v_cells_n v_cells_a 0 u1 hu1) (cwV 1 hts gX5_first_X5_at rfl rfl rfl (by decide +kernel) ⟨Nat.le_of_ble_eq_true rfl, Nat.le_of_ble_eq_true rfl⟩) hK hP hD hS hA [0] [0, 1] [] [0, 1] rfl rfl rfl rfl rfl rfl rfl rfl rfl hl.1 rfl (Nat.le_of_ble_eq_true rfl) rfl dX5_first_2 ⟨Nat.le_refl _, Nat.le_refl _⟩ (fun H locs hP hD hS => ?_)
  exact hret u1 u1 _ _ 5 _ hP hD hS hF rfl dX5_first_5
def F_X5_setAt (p1 : Int32) (p2 : Int32) (v_head : Int32) (v_size : Int32) (v_cells_n : Nat) (v_cells_a : Nat → Int32) : Option ((Nat → Int32)) := bd (F_X5_cellOf p1 v_head v_cells_n) (fun u1 => if p1 < 0 then (some v_cells_a) else (if v_size ≤ p1 then (some v_cells_a) else (if u1 < 0 then (some v_cells_a) else (if (Int32.ofNat v_cells_n) ≤ u1 then (some v_cells_a) else (gd (inR u1 v_cells_n = true) (some (upd v_cells_a (u1.toNatClampNeg) p2)))))))
def wX5_setAt (k_cells : ClassId) (h_ : Nat) (h_cells : Nat) (v_head : Int32) (v_size : Int32) (v_cells_n : Nat) (u : (Nat → Int32)) : va_W := [oX5 h_ h_cells v_head v_size, aI h_cells k_cells v_cells_n u]
set_option maxHeartbeats 4000000 in
set_option maxRecDepth 100000 in
theorem mX5_setAt {l : Launch} (D : va_G) (k_cells : ClassId) (h_ : Nat) (h_cells : Nat) (v_head : Int32) (v_size : Int32) (v_cells_n : Nat) (v_cells_a : Nat → Int32) (p1 : Int32) (p2 : Int32) (u0 : (Nat → Int32)) (hF : F_X5_setAt p1 p2 v_head v_size v_cells_n v_cells_a = some u0) : MV l yX5_setAt wsX5_setAt { frames := 1, cells := 0, slots := 0, locals := 22 } D [(k_cells, .int)] [.ref h_, .int p1, .int p2] [oX5 h_ h_cells v_head v_size, aI h_cells k_cells v_cells_n v_cells_a] (wX5_setAt k_cells h_ h_cells v_head v_size v_cells_n u0) := by
  refine MV.ofW (cc := cX5_setAt) (maxL := 4) (ret := none) (lv := [(0, .ref h_), (1, .int p1), (2, .int p2)]) (by decide +kernel) rfl (Nat.le_of_ble_eq_true rfl) rfl ?_
  intro p e s m args below meth c A ls hx hb hr hml hts hown hlocks hA hK hP hD hS hl
  replace hown : s.vm.findClass RX5 = some m.cls := hown
  have i_X5 : ∀ w ∈ wsX50, w ∈ wsX5_setAt := by decide +kernel
  have f_13 := hts (.fieldLink RX5 13 "SerialPort$Ring" "cells" "[I") (by decide +kernel)
  have f_23 := hts (.fieldLink RX5 23 "SerialPort$Ring" "size" "I") (by decide +kernel)
  have hret : ∀ (u : (Nat → Int32)) (H : Heap) (locs : List Loc) (pc : Nat) (ls : Array Slot), va_P D vwCl (wX5_setAt k_cells h_ h_cells v_head v_size v_cells_n u) H → va_D A (wX5_setAt k_cells h_ h_cells v_head v_size v_cells_n u) → va_S A s.heap H locs → some u = some u0 → decode cX5_setAt pc = .ok (.return_, 1) → W p l e { frames := 1, cells := 0, slots := 0, locals := 22 } s m args below meth c H locs 0 0 (QV below D [(k_cells, .int)] (wX5_setAt k_cells h_ h_cells v_head v_size v_cells_n u0) args s A) (F0 m pc ls []) := fun u H locs pc ls h1 h2 h3 h4 h5 => rV (wf := wX5_setAt k_cells h_ h_cells v_head v_size v_cells_n) hx hb hr hlocks hK h1 h2 h3 h4 h5
  unfold F_X5_setAt at hF
  refine lv_aload_n hx hb dX5_setAt_0 rfl (lv_at hl 0 rfl) ?_
  refine lv_iload_n hx hb dX5_setAt_1 rfl (lv_at hl 1 rfl) ?_
  obtain ⟨u1, hu1, hF⟩ := bd_el hF
  refine cVI (q0 := 0) (ci := 5) (As := [.int p1]) (rest := []) (wr := []) (ws' := [oX5 h_ h_cells v_head v_size, aI h_cells k_cells v_cells_n v_cells_a]) (rv := u1) ⟨hx, hb, hml, hown, hts⟩ (mX5_cellOf D k_cells h_ h_cells v_head v_size v_cells_n v_cells_a p1 u1 hu1) (cwV 1 hts gX5_setAt_X5_cellOf rfl rfl rfl (by decide +kernel) ⟨Nat.le_of_ble_eq_true rfl, Nat.le_of_ble_eq_true rfl⟩) hK hP hD hS hA [0] [0, 1] [] [0, 1] rfl rfl rfl rfl rfl rfl rfl rfl rfl hl.1 rfl (Nat.le_of_ble_eq_true rfl) rfl dX5_setAt_2 ⟨Nat.le_refl _, Nat.le_refl _⟩ (fun H locs hP hD hS => ?_)
  refine lv_istore_n (lv' := [(3, .int u1), (0, .ref h_), (1, .int p1), (2, .int p2)]) hx hb dX5_setAt_5 rfl hl (Nat.le_of_ble_eq_true rfl) rfl (fun ls hl => ?_)
  refine lv_iload_n hx hb dX5_setAt_6 rfl (lv_at hl 2 rfl) ?_
  refine lv_if_lt (tgt := 38) hx hb dX5_setAt_7 (by decide) (fun c2 => ?_) (fun c2 => ?_)
  · replace hF := it_t c2 hF
    exact hret v_cells_a _ _ 38 _ hP hD hS hF dX5_setAt_38
  · replace hF := it_f c2 hF
    refine lv_iload_n hx hb dX5_setAt_10 rfl (lv_at hl 2 rfl) ?_
    refine lv_aload_n hx hb dX5_setAt_11 rfl (lv_at hl 1 rfl) ?_
    refine va_get (D := D) (ci := 5) (v := .int v_size) (C := RX5) (T := TX5) (N := 3) hx hb hts i_X5 hown hK hP 0 rfl rfl 2 (Nat.le_of_ble_eq_true rfl) f_23 (fun _ h9 => h9) rfl dX5_setAt_12 ?_
    refine lv_icmp_ge (tgt := 38) hx hb dX5_setAt_15 (by decide) (fun c3 => ?_) (fun c3 => ?_)
    · replace hF := it_t c3 hF
      exact hret v_cells_a _ _ 38 _ hP hD hS hF dX5_setAt_38
    · replace hF := it_f c3 hF
      refine lv_iload_n hx hb dX5_setAt_18 rfl (lv_at hl 0 rfl) ?_
      refine lv_if_lt (tgt := 38) hx hb dX5_setAt_19 (by decide) (fun c4 => ?_) (fun c4 => ?_)
      · replace hF := it_t c4 hF
        exact hret v_cells_a _ _ 38 _ hP hD hS hF dX5_setAt_38
      · replace hF := it_f c4 hF
        refine lv_iload_n hx hb dX5_setAt_22 rfl (lv_at hl 0 rfl) ?_
        refine lv_aload_n hx hb dX5_setAt_23 rfl (lv_at hl 1 rfl) ?_
        refine va_get (D := D) (ci := 5) (v := .ref h_cells) (C := RX5) (T := TX5) (N := 3) hx hb hts i_X5 hown hK hP 0 rfl rfl 0 (Nat.le_of_ble_eq_true rfl) f_13 (fun _ h9 => h9) rfl dX5_setAt_24 ?_
        refine va_alen (v := (Int32.ofNat v_cells_n)) hx hb hK hP 1 0 rfl rfl rfl dX5_setAt_27 ?_
        refine lv_icmp_ge (tgt := 38) hx hb dX5_setAt_28 (by decide) (fun c5 => ?_) (fun c5 => ?_)
        · replace hF := it_t c5 hF
          exact hret v_cells_a _ _ 38 _ hP hD hS hF dX5_setAt_38
        · replace hF := it_f c5 hF
          refine lv_aload_n hx hb dX5_setAt_31 rfl (lv_at hl 1 rfl) ?_
          refine va_get (D := D) (ci := 5) (v := .ref h_cells) (C := RX5) (T := TX5) (N := 3) hx hb hts i_X5 hown hK hP 0 rfl rfl 0 (Nat.le_of_ble_eq_true rfl) f_13 (fun _ h9 => h9) rfl dX5_setAt_32 ?_
          refine lv_iload_n hx hb dX5_setAt_35 rfl (lv_at hl 0 rfl) ?_
          refine lv_iload_n hx hb dX5_setAt_36 rfl (lv_at hl 3 rfl) ?_
          obtain ⟨g6, hF⟩ := gd_el hF
          refine ias (ws' := [oX5 h_ h_cells v_head v_size, aI h_cells k_cells v_cells_n (upd v_cells_a (u1.toNatClampNeg) p2)]) hx hb hK hP hD hS 1 0 rfl rfl g6 rfl dX5_setAt_37 (fun H locs hP hD hS => ?_)
          exact hret (upd v_cells_a (u1.toNatClampNeg) p2) _ _ 38 _ hP hD hS hF dX5_setAt_38
def F_X5_setFirst (p1 : Int32) (v_head : Int32) (v_size : Int32) (v_cells_n : Nat) (v_cells_a : Nat → Int32) : Option ((Nat → Int32)) := bd (F_X5_setAt 0 p1 v_head v_size v_cells_n v_cells_a) (fun u1 => some u1)
def wX5_setFirst (k_cells : ClassId) (h_ : Nat) (h_cells : Nat) (v_head : Int32) (v_size : Int32) (v_cells_n : Nat) (u : (Nat → Int32)) : va_W := [oX5 h_ h_cells v_head v_size, aI h_cells k_cells v_cells_n u]
set_option maxHeartbeats 4000000 in
set_option maxRecDepth 100000 in
theorem mX5_setFirst {l : Launch} (D : va_G) (k_cells : ClassId) (h_ : Nat) (h_cells : Nat) (v_head : Int32) (v_size : Int32) (v_cells_n : Nat) (v_cells_a : Nat → Int32) (p1 : Int32) (u0 : (Nat → Int32)) (hF : F_X5_setFirst p1 v_head v_size v_cells_n v_cells_a = some u0) : MV l yX5_setFirst wsX5_setFirst { frames := 2, cells := 0, slots := 0, locals := 45 } D [(k_cells, .int)] [.ref h_, .int p1] [oX5 h_ h_cells v_head v_size, aI h_cells k_cells v_cells_n v_cells_a] (wX5_setFirst k_cells h_ h_cells v_head v_size v_cells_n u0) := by
  refine MV.ofW (cc := cX5_setFirst) (maxL := 2) (ret := none) (lv := [(0, .ref h_), (1, .int p1)]) (by decide +kernel) rfl (Nat.le_of_ble_eq_true rfl) rfl ?_
  intro p e s m args below meth c A ls hx hb hr hml hts hown hlocks hA hK hP hD hS hl
  replace hown : s.vm.findClass RX5 = some m.cls := hown
  have hret : ∀ (u : (Nat → Int32)) (H : Heap) (locs : List Loc) (pc : Nat) (ls : Array Slot), va_P D vwCl (wX5_setFirst k_cells h_ h_cells v_head v_size v_cells_n u) H → va_D A (wX5_setFirst k_cells h_ h_cells v_head v_size v_cells_n u) → va_S A s.heap H locs → some u = some u0 → decode cX5_setFirst pc = .ok (.return_, 1) → W p l e { frames := 2, cells := 0, slots := 0, locals := 45 } s m args below meth c H locs 0 0 (QV below D [(k_cells, .int)] (wX5_setFirst k_cells h_ h_cells v_head v_size v_cells_n u0) args s A) (F0 m pc ls []) := fun u H locs pc ls h1 h2 h3 h4 h5 => rV (wf := wX5_setFirst k_cells h_ h_cells v_head v_size v_cells_n) hx hb hr hlocks hK h1 h2 h3 h4 h5
  unfold F_X5_setFirst at hF
  refine lv_aload_n hx hb dX5_setFirst_0 rfl (lv_at hl 0 rfl) ?_
  refine lv_iconst (v := 0) hx hb dX5_setFirst_1 (by decide) ?_
  refine lv_iload_n hx hb dX5_setFirst_2 rfl (lv_at hl 1 rfl) ?_
  obtain ⟨u1, hu1, hF⟩ := bd_el hF
  refine cVV (q0 := 0) (ci := 5) (As := [.int 0, .int p1]) (rest := []) (wr := []) (ws' := [oX5 h_ h_cells v_head v_size, aI h_cells k_cells v_cells_n u1]) ⟨hx, hb, hml, hown, hts⟩ (mX5_setAt D k_cells h_ h_cells v_head v_size v_cells_n v_cells_a 0 p1 u1 hu1) (cwV 2 hts gX5_setFirst_X5_setAt rfl rfl rfl (by decide +kernel) ⟨Nat.le_of_ble_eq_true rfl, Nat.le_of_ble_eq_true rfl⟩) hK hP hD hS hA [0] [0, 1] [] [0, 1] rfl rfl rfl rfl rfl rfl rfl rfl rfl hl.1 rfl (Nat.le_of_ble_eq_true rfl) dX5_setFirst_3 ⟨Nat.le_refl _, Nat.le_refl _⟩ (fun H locs hP hD hS => ?_)
  exact hret u1 _ _ 6 _ hP hD hS hF dX5_setFirst_6
def F_X5_add (p1 : Int32) (v_head : Int32) (v_size : Int32) (v_cells_n : Nat) (v_cells_a : Nat → Int32) : Option (Int32 × (Nat → Int32)) := if (Int32.ofNat v_cells_n) ≤ v_size then (some (v_size, v_cells_a)) else (lt1 (v_size + 1) (fun x2 => bd (F_X5_setAt (x2 - 1) p1 v_head x2 v_cells_n v_cells_a) (fun u3 => some (x2, u3))))
def wX5_add (k_cells : ClassId) (h_ : Nat) (h_cells : Nat) (v_head : Int32) (v_cells_n : Nat) (u : Int32 × (Nat → Int32)) : va_W := [oX5 h_ h_cells v_head u.1, aI h_cells k_cells v_cells_n u.2]
set_option maxHeartbeats 4000000 in
set_option maxRecDepth 100000 in
theorem mX5_add {l : Launch} (D : va_G) (k_cells : ClassId) (h_ : Nat) (h_cells : Nat) (v_head : Int32) (v_size : Int32) (v_cells_n : Nat) (v_cells_a : Nat → Int32) (p1 : Int32) (u0 : Int32 × (Nat → Int32)) (hF : F_X5_add p1 v_head v_size v_cells_n v_cells_a = some u0) : MV l yX5_add wsX5_add { frames := 2, cells := 0, slots := 0, locals := 45 } D [(k_cells, .int)] [.ref h_, .int p1] [oX5 h_ h_cells v_head v_size, aI h_cells k_cells v_cells_n v_cells_a] (wX5_add k_cells h_ h_cells v_head v_cells_n u0) := by
  refine MV.ofW (cc := cX5_add) (maxL := 2) (ret := none) (lv := [(0, .ref h_), (1, .int p1)]) (by decide +kernel) rfl (Nat.le_of_ble_eq_true rfl) rfl ?_
  intro p e s m args below meth c A ls hx hb hr hml hts hown hlocks hA hK hP hD hS hl
  replace hown : s.vm.findClass RX5 = some m.cls := hown
  have i_X5 : ∀ w ∈ wsX50, w ∈ wsX5_add := by decide +kernel
  have f_13 := hts (.fieldLink RX5 13 "SerialPort$Ring" "cells" "[I") (by decide +kernel)
  have f_23 := hts (.fieldLink RX5 23 "SerialPort$Ring" "size" "I") (by decide +kernel)
  have hret : ∀ (u : Int32 × (Nat → Int32)) (H : Heap) (locs : List Loc) (pc : Nat) (ls : Array Slot), va_P D vwCl (wX5_add k_cells h_ h_cells v_head v_cells_n u) H → va_D A (wX5_add k_cells h_ h_cells v_head v_cells_n u) → va_S A s.heap H locs → some u = some u0 → decode cX5_add pc = .ok (.return_, 1) → W p l e { frames := 2, cells := 0, slots := 0, locals := 45 } s m args below meth c H locs 0 0 (QV below D [(k_cells, .int)] (wX5_add k_cells h_ h_cells v_head v_cells_n u0) args s A) (F0 m pc ls []) := fun u H locs pc ls h1 h2 h3 h4 h5 => rV (wf := wX5_add k_cells h_ h_cells v_head v_cells_n) hx hb hr hlocks hK h1 h2 h3 h4 h5
  unfold F_X5_add at hF
  refine lv_aload_n hx hb dX5_add_0 rfl (lv_at hl 0 rfl) ?_
  refine va_get (D := D) (ci := 5) (v := .int v_size) (C := RX5) (T := TX5) (N := 3) hx hb hts i_X5 hown hK hP 0 rfl rfl 2 (Nat.le_of_ble_eq_true rfl) f_23 (fun _ h9 => h9) rfl dX5_add_1 ?_
  refine lv_aload_n hx hb dX5_add_4 rfl (lv_at hl 0 rfl) ?_
  refine va_get (D := D) (ci := 5) (v := .ref h_cells) (C := RX5) (T := TX5) (N := 3) hx hb hts i_X5 hown hK hP 0 rfl rfl 0 (Nat.le_of_ble_eq_true rfl) f_13 (fun _ h9 => h9) rfl dX5_add_5 ?_
  refine va_alen (v := (Int32.ofNat v_cells_n)) hx hb hK hP 1 0 rfl rfl rfl dX5_add_8 ?_
  refine lv_icmp_ge (tgt := 33) hx hb dX5_add_9 (by decide) (fun c1 => ?_) (fun c1 => ?_)
  · replace hF := it_t c1 hF
    exact hret (v_size, v_cells_a) _ _ 33 _ hP hD hS hF dX5_add_33
  · replace hF := it_f c1 hF
    refine lv_aload_n hx hb dX5_add_12 rfl (lv_at hl 0 rfl) ?_
    refine lv_dup hx hb dX5_add_13 rfl ?_
    refine va_get (D := D) (ci := 5) (v := .int v_size) (C := RX5) (T := TX5) (N := 3) hx hb hts i_X5 hown hK hP 0 rfl rfl 2 (Nat.le_of_ble_eq_true rfl) f_23 (fun _ h9 => h9) rfl dX5_add_14 ?_
    refine lv_iconst (v := 1) hx hb dX5_add_17 (by decide) ?_
    refine lv_iadd hx hb dX5_add_18 ?_
    refine lv_topi (fun x2 ex2 => ?_)
    replace hF := lt1_x ex2 hF
    refine pf (ci := 5) (v := .int x2) (ty := .int) (C := RX5) (T := TX5) (N := 3) (ws' := [oX5 h_ h_cells v_head x2, aI h_cells k_cells v_cells_n v_cells_a]) hx hb hts i_X5 tyX5_ok nmX5 hown hK hP hD hS 0 rfl rfl 2 (Nat.le_of_ble_eq_true rfl) f_23 rfl rfl (by decide +kernel) rfl rfl (Nat.le_of_ble_eq_true rfl) rfl dX5_add_19 (fun H locs hP hD hS => ?_)
    refine lv_aload_n hx hb dX5_add_22 rfl (lv_at hl 0 rfl) ?_
    refine lv_aload_n hx hb dX5_add_23 rfl (lv_at hl 0 rfl) ?_
    refine va_get (D := D) (ci := 5) (v := .int x2) (C := RX5) (T := TX5) (N := 3) hx hb hts i_X5 hown hK hP 0 rfl rfl 2 (Nat.le_of_ble_eq_true rfl) f_23 (fun _ h9 => h9) rfl dX5_add_24 ?_
    refine lv_iconst (v := 1) hx hb dX5_add_27 (by decide) ?_
    refine lv_isub hx hb dX5_add_28 ?_
    refine lv_iload_n hx hb dX5_add_29 rfl (lv_at hl 1 rfl) ?_
    obtain ⟨u3, hu3, hF⟩ := bd_el hF
    refine cVV (q0 := 0) (ci := 5) (As := [.int (x2 - 1), .int p1]) (rest := []) (wr := []) (ws' := [oX5 h_ h_cells v_head x2, aI h_cells k_cells v_cells_n u3]) ⟨hx, hb, hml, hown, hts⟩ (mX5_setAt D k_cells h_ h_cells v_head x2 v_cells_n v_cells_a (x2 - 1) p1 u3 hu3) (cwV 2 hts gX5_add_X5_setAt rfl rfl rfl (by decide +kernel) ⟨Nat.le_of_ble_eq_true rfl, Nat.le_of_ble_eq_true rfl⟩) hK hP hD hS hA [0] [0, 1] [] [0, 1] rfl rfl rfl rfl rfl rfl rfl rfl rfl hl.1 rfl (Nat.le_of_ble_eq_true rfl) dX5_add_30 ⟨Nat.le_refl _, Nat.le_refl _⟩ (fun H locs hP hD hS => ?_)
    exact hret (x2, u3) _ _ 33 _ hP hD hS hF dX5_add_33
def F_X5_dropFirst  (v_head : Int32) (v_size : Int32) (v_cells_n : Nat) : Option (Int32 × Int32) := if v_size ≤ 0 then (some (v_head, v_size)) else (bd (F_X5_cellOf 1 v_head v_cells_n) (fun u2 => lt1 (v_size - 1) (fun x3 => some (u2, x3))))
def wX5_dropFirst (k_cells : ClassId) (h_ : Nat) (h_cells : Nat) (v_cells_n : Nat) (v_cells_a : Nat → Int32) (u : Int32 × Int32) : va_W := [oX5 h_ h_cells u.1 u.2, aI h_cells k_cells v_cells_n v_cells_a]
set_option maxHeartbeats 4000000 in
set_option maxRecDepth 100000 in
theorem mX5_dropFirst {l : Launch} (D : va_G) (k_cells : ClassId) (h_ : Nat) (h_cells : Nat) (v_head : Int32) (v_size : Int32) (v_cells_n : Nat) (v_cells_a : Nat → Int32) (u0 : Int32 × Int32) (hF : F_X5_dropFirst v_head v_size v_cells_n = some u0) : MV l yX5_dropFirst wsX5_dropFirst { frames := 1, cells := 0, slots := 0, locals := 22 } D [(k_cells, .int)] [.ref h_] [oX5 h_ h_cells v_head v_size, aI h_cells k_cells v_cells_n v_cells_a] (wX5_dropFirst k_cells h_ h_cells v_cells_n v_cells_a u0) := by
  refine MV.ofW (cc := cX5_dropFirst) (maxL := 1) (ret := none) (lv := [(0, .ref h_)]) (by decide +kernel) rfl (Nat.le_of_ble_eq_true rfl) rfl ?_
  intro p e s m args below meth c A ls hx hb hr hml hts hown hlocks hA hK hP hD hS hl
  replace hown : s.vm.findClass RX5 = some m.cls := hown
  have i_X5 : ∀ w ∈ wsX50, w ∈ wsX5_dropFirst := by decide +kernel
  have f_19 := hts (.fieldLink RX5 19 "SerialPort$Ring" "head" "I") (by decide +kernel)
  have f_23 := hts (.fieldLink RX5 23 "SerialPort$Ring" "size" "I") (by decide +kernel)
  have hret : ∀ (u : Int32 × Int32) (H : Heap) (locs : List Loc) (pc : Nat) (ls : Array Slot), va_P D vwCl (wX5_dropFirst k_cells h_ h_cells v_cells_n v_cells_a u) H → va_D A (wX5_dropFirst k_cells h_ h_cells v_cells_n v_cells_a u) → va_S A s.heap H locs → some u = some u0 → decode cX5_dropFirst pc = .ok (.return_, 1) → W p l e { frames := 1, cells := 0, slots := 0, locals := 22 } s m args below meth c H locs 0 0 (QV below D [(k_cells, .int)] (wX5_dropFirst k_cells h_ h_cells v_cells_n v_cells_a u0) args s A) (F0 m pc ls []) := fun u H locs pc ls h1 h2 h3 h4 h5 => rV (wf := wX5_dropFirst k_cells h_ h_cells v_cells_n v_cells_a) hx hb hr hlocks hK h1 h2 h3 h4 h5
  unfold F_X5_dropFirst at hF
  refine lv_aload_n hx hb dX5_dropFirst_0 rfl (lv_at hl 0 rfl) ?_
  refine va_get (D := D) (ci := 5) (v := .int v_size) (C := RX5) (T := TX5) (N := 3) hx hb hts i_X5 hown hK hP 0 rfl rfl 2 (Nat.le_of_ble_eq_true rfl) f_23 (fun _ h9 => h9) rfl dX5_dropFirst_1 ?_
  refine lv_if_le (tgt := 26) hx hb dX5_dropFirst_4 (by decide) (fun c1 => ?_) (fun c1 => ?_)
  · replace hF := it_t c1 hF
    exact hret (v_head, v_size) _ _ 26 _ hP hD hS hF dX5_dropFirst_26
  · replace hF := it_f c1 hF
    refine lv_aload_n hx hb dX5_dropFirst_7 rfl (lv_at hl 0 rfl) ?_
    refine lv_aload_n hx hb dX5_dropFirst_8 rfl (lv_at hl 0 rfl) ?_
    refine lv_iconst (v := 1) hx hb dX5_dropFirst_9 (by decide) ?_
    obtain ⟨u2, hu2, hF⟩ := bd_el hF
    refine cVI (q0 := 0) (ci := 5) (As := [.int 1]) (rest := [.ref h_]) (wr := []) (ws' := [oX5 h_ h_cells v_head v_size, aI h_cells k_cells v_cells_n v_cells_a]) (rv := u2) ⟨hx, hb, hml, hown, hts⟩ (mX5_cellOf D k_cells h_ h_cells v_head v_size v_cells_n v_cells_a 1 u2 hu2) (cwV 1 hts gX5_dropFirst_X5_cellOf rfl rfl rfl (by decide +kernel) ⟨Nat.le_of_ble_eq_true rfl, Nat.le_of_ble_eq_true rfl⟩) hK hP hD hS hA [0] [0, 1] [] [0, 1] rfl rfl rfl rfl rfl rfl rfl rfl rfl hl.1 rfl (Nat.le_of_ble_eq_true rfl) rfl dX5_dropFirst_10 ⟨Nat.le_refl _, Nat.le_refl _⟩ (fun H locs hP hD hS => ?_)
    refine pf (ci := 5) (v := .int u2) (ty := .int) (C := RX5) (T := TX5) (N := 3) (ws' := [oX5 h_ h_cells u2 v_size, aI h_cells k_cells v_cells_n v_cells_a]) hx hb hts i_X5 tyX5_ok nmX5 hown hK hP hD hS 0 rfl rfl 1 (Nat.le_of_ble_eq_true rfl) f_19 rfl rfl (by decide +kernel) rfl rfl (Nat.le_of_ble_eq_true rfl) rfl dX5_dropFirst_13 (fun H locs hP hD hS => ?_)
    refine lv_aload_n hx hb dX5_dropFirst_16 rfl (lv_at hl 0 rfl) ?_
    refine lv_dup hx hb dX5_dropFirst_17 rfl ?_
    refine va_get (D := D) (ci := 5) (v := .int v_size) (C := RX5) (T := TX5) (N := 3) hx hb hts i_X5 hown hK hP 0 rfl rfl 2 (Nat.le_of_ble_eq_true rfl) f_23 (fun _ h9 => h9) rfl dX5_dropFirst_18 ?_
    refine lv_iconst (v := 1) hx hb dX5_dropFirst_21 (by decide) ?_
    refine lv_isub hx hb dX5_dropFirst_22 ?_
    refine lv_topi (fun x3 ex3 => ?_)
    replace hF := lt1_x ex3 hF
    refine pf (ci := 5) (v := .int x3) (ty := .int) (C := RX5) (T := TX5) (N := 3) (ws' := [oX5 h_ h_cells u2 x3, aI h_cells k_cells v_cells_n v_cells_a]) hx hb hts i_X5 tyX5_ok nmX5 hown hK hP hD hS 0 rfl rfl 2 (Nat.le_of_ble_eq_true rfl) f_23 rfl rfl (by decide +kernel) rfl rfl (Nat.le_of_ble_eq_true rfl) rfl dX5_dropFirst_23 (fun H locs hP hD hS => ?_)
    exact hret (u2, x3) _ _ 26 _ hP hD hS hF dX5_dropFirst_26
