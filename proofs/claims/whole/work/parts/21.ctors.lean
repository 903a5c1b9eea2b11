theorem dX5_init_0 : decode cX5_init 0 = .ok (.aload_n 0, 1) := by decide +kernel
theorem dX5_init_1 : decode cX5_init 1 = .ok (.invokespecial 1, 3) := by decide +kernel
theorem dX5_init_4 : decode cX5_init 4 = .ok (.aload_n 0, 1) := by decide +kernel
theorem dX5_init_5 : decode cX5_init 5 = .ok (.iload_n 1, 1) := by decide +kernel
theorem dX5_init_6 : decode cX5_init 6 = .ok (.iconst 1, 1) := by decide +kernel
theorem dX5_init_7 : decode cX5_init 7 = .ok (.invokestatic 7, 3) := by decide +kernel
theorem dX5_init_10 : decode cX5_init 10 = .ok (.newarray .int, 2) := by decide +kernel
theorem dX5_init_12 : decode cX5_init 12 = .ok (.putfield 13, 3) := by decide +kernel
theorem dX5_init_15 : decode cX5_init 15 = .ok (.aload_n 0, 1) := by decide +kernel
theorem dX5_init_16 : decode cX5_init 16 = .ok (.iconst 0, 1) := by decide +kernel
theorem dX5_init_17 : decode cX5_init 17 = .ok (.putfield 19, 3) := by decide +kernel
theorem dX5_init_20 : decode cX5_init 20 = .ok (.aload_n 0, 1) := by decide +kernel
theorem dX5_init_21 : decode cX5_init 21 = .ok (.iconst 0, 1) := by decide +kernel
theorem dX5_init_22 : decode cX5_init 22 = .ok (.putfield 23, 3) := by decide +kernel
theorem dX5_init_25 : decode cX5_init 25 = .ok (.return_, 1) := by decide +kernel
theorem dX0_init_0 : decode cX0_init 0 = .ok (.aload_n 0, 1) := by decide +kernel
theorem dX0_init_1 : decode cX0_init 1 = .ok (.invokespecial 3, 3) := by decide +kernel
theorem dX0_init_4 : decode cX0_init 4 = .ok (.return_, 1) := by decide +kernel
theorem dX3_init_0 : decode cX3_init 0 = .ok (.aload_n 0, 1) := by decide +kernel
theorem dX3_init_1 : decode cX3_init 1 = .ok (.invokespecial 1, 3) := by decide +kernel
theorem dX3_init_4 : decode cX3_init 4 = .ok (.return_, 1) := by decide +kernel
theorem dX4_init_0 : decode cX4_init 0 = .ok (.aload_n 0, 1) := by decide +kernel
theorem dX4_init_1 : decode cX4_init 1 = .ok (.invokespecial 3, 3) := by decide +kernel
theorem dX4_init_4 : decode cX4_init 4 = .ok (.return_, 1) := by decide +kernel
theorem dX6_init_0 : decode cX6_init 0 = .ok (.aload_n 0, 1) := by decide +kernel
theorem dX6_init_1 : decode cX6_init 1 = .ok (.invokespecial 3, 3) := by decide +kernel
theorem dX6_init_4 : decode cX6_init 4 = .ok (.return_, 1) := by decide +kernel
theorem dX1_init_0 : decode cX1_init 0 = .ok (.aload_n 0, 1) := by decide +kernel
theorem dX1_init_1 : decode cX1_init 1 = .ok (.invokespecial 3, 3) := by decide +kernel
theorem dX1_init_4 : decode cX1_init 4 = .ok (.aload_n 0, 1) := by decide +kernel
theorem dX1_init_5 : decode cX1_init 5 = .ok (.new 9, 3) := by decide +kernel
theorem dX1_init_8 : decode cX1_init 8 = .ok (.dup, 1) := by decide +kernel
theorem dX1_init_9 : decode cX1_init 9 = .ok (.sipush 500, 3) := by decide +kernel
theorem dX1_init_12 : decode cX1_init 12 = .ok (.invokespecial 11, 3) := by decide +kernel
theorem dX1_init_15 : decode cX1_init 15 = .ok (.putfield 14, 3) := by decide +kernel
theorem dX1_init_18 : decode cX1_init 18 = .ok (.return_, 1) := by decide +kernel
set_option maxRecDepth 20000 in
theorem ggX1_init_X5_init : GoodIn wsX1_init wsX5_init := goodIn_r _ [10, 11, 2, 3, 12, 13, 14, 15, 16, 17, 18, 19, 20, 21, 22] (by decide +kernel) (by decide +kernel)
set_option maxRecDepth 20000 in
theorem gX1_init_X5_init : GoodIn wsX1_init (wsX5_init) := ggX1_init_X5_init
theorem dX2_init_0 : decode cX2_init 0 = .ok (.aload_n 0, 1) := by decide +kernel
theorem dX2_init_1 : decode cX2_init 1 = .ok (.invokespecial 3, 3) := by decide +kernel
theorem dX2_init_4 : decode cX2_init 4 = .ok (.aload_n 0, 1) := by decide +kernel
theorem dX2_init_5 : decode cX2_init 5 = .ok (.new 9, 3) := by decide +kernel
theorem dX2_init_8 : decode cX2_init 8 = .ok (.dup, 1) := by decide +kernel
theorem dX2_init_9 : decode cX2_init 9 = .ok (.bipush 40, 2) := by decide +kernel
theorem dX2_init_11 : decode cX2_init 11 = .ok (.invokespecial 11, 3) := by decide +kernel
theorem dX2_init_14 : decode cX2_init 14 = .ok (.putfield 14, 3) := by decide +kernel
theorem dX2_init_17 : decode cX2_init 17 = .ok (.return_, 1) := by decide +kernel
set_option maxRecDepth 20000 in
theorem ggX2_init_X5_init : GoodIn wsX2_init wsX5_init := goodIn_r _ [10, 11, 2, 3, 12, 13, 14, 15, 16, 17, 18, 19, 20, 21, 22] (by decide +kernel) (by decide +kernel)
set_option maxRecDepth 20000 in
theorem gX2_init_X5_init : GoodIn wsX2_init (wsX5_init) := ggX2_init_X5_init
def kX5_init_w (h_ : Nat) (N : Nat) (u : Nat × ClassId) : va_W := [(h_, .inr (5, [.ref u.1, .int 0, .int 0])), (u.1, .inl (u.2, N, .inl (fun _ => 0)))]
def kX5_init_t (u : Nat × ClassId) : List (ClassId × FieldType) := [(u.2, .int)]
set_option maxHeartbeats 4000000 in
set_option maxRecDepth 100000 in
theorem kX5_init {l : Launch} (D : va_G) (h_ : Nat) (N : Nat) (hN0 : 1 ≤ N) (hN1 : N ≤ 500) (hN2 : N < 2 ^ 31) : MC l yX5_init wsX5_init { frames := 1, cells := 1, slots := N, locals := 20 } D [.ref h_, .int (nI N)] [(h_, .inr (5, [.null, .int 0, .int 0]))] (kX5_init_w h_ N) kX5_init_t 1 N := by
  refine MC.ofW (cc := cX5_init) (maxL := 2) (ret := none) (lv := [(0, .ref h_), (1, .int (nI N))]) (by decide +kernel) rfl (Nat.le_of_ble_eq_true rfl) rfl ?_
  intro p e s m args below meth c A ls hx hb hr hml hts hown hlocks hin hA hK hP hD hS hl
  replace hown : s.vm.findClass RX5 = some m.cls := hown
  replace hin : meth.name = "<init>" := hin
  have i_X5 : ∀ w ∈ wsX50, w ∈ wsX5_init := by decide +kernel
  have f_13 := hts (.fieldLink RX5 13 "SerialPort$Ring" "cells" "[I") (by decide +kernel)
  have f_19 := hts (.fieldLink RX5 19 "SerialPort$Ring" "head" "I") (by decide +kernel)
  have f_23 := hts (.fieldLink RX5 23 "SerialPort$Ring" "size" "I") (by decide +kernel)
  refine lv_aload_n hx hb dX5_init_0 rfl (lv_at hl 0 rfl) ?_
  refine W.objInit hx hb hown (hts (.methodLink RX5 1 objectInit) (by decide +kernel)) (hts (.instanceMethod objectInit) (by decide +kernel)) (hts (.code objectInit ⟨#[0xb1]⟩ 1 none) (by decide +kernel)) rfl (by rw [hml]; exact hl.1) rfl dX5_init_1 (Nat.le_of_ble_eq_true rfl) (Nat.le_of_ble_eq_true rfl) ?_
  refine W.eq (g2 := F0 m 4 ls []) rfl ?_
  refine lv_aload_n hx hb dX5_init_4 rfl (lv_at hl 0 rfl) ?_
  refine lv_iload_n hx hb dX5_init_5 rfl (lv_at hl 1 rfl) ?_
  refine lv_iconst (v := 1) hx hb dX5_init_6 (by decide) ?_
  refine va_mmax hx hb (by rw [hml]; exact hl.1.symm) hown (hts (.methodLink RX5 7 Lib.Math.max.name) (by decide +kernel)) (hts (.static Lib.Math.max.name) (by decide +kernel)) (hts (.initialized "java/lang/Math") (by decide +kernel)) (hts (.code Lib.Math.max.name Lib.Math.max.code 2 (some .int)) (by decide +kernel)) (Nat.le_of_ble_eq_true rfl) (Nat.le_of_ble_eq_true rfl) (Nat.zero_le _) (Nat.zero_le _) dX5_init_7 ?_
  refine lv_topi (fun v ev => ?_)
  obtain rfl := ev.trans (if_neg (show ¬ nI N < 1 from nI_nlt (b := 1) hN0 hN2))
  refine va_newa (atype := .int) (ty := .int) (N' := N) (a0 := (N, .inl (fun _ => 0))) hx hb (hts (.arrayClass .int) (by decide +kernel)) rfl hK hP hD hS hA (fun cA => a0_int cA N) (nI_pos hN2) (nI_clamp hN2) (cb_int hN1) (Nat.le_of_ble_eq_true rfl) (Nat.le_of_eq (Nat.zero_add N)) dX5_init_10 (fun q1 k2 H hK hP hD hS => ?_)
  replace hK : va_K D vwCl [(k2, .int)] s := hK
  replace hP : va_P D vwCl [(h_, .inr (5, [.null, .int 0, .int 0])), (q1, .inl (k2, N, .inl (fun _ => 0)))] H := hP
  replace hD : va_D A [(h_, .inr (5, [.null, .int 0, .int 0])), (q1, .inl (k2, N, .inl (fun _ => 0)))] := hD
  refine pfF (ci := 5) (v := .ref q1) (ty := .array .int) (C := RX5) (T := TX5) (N := 3) (ws' := [(h_, .inr (5, [.ref q1, .int 0, .int 0])), (q1, .inl (k2, N, .inl (fun _ => 0)))]) hx hb hts i_X5 tyX5_ok nmX5 hown hK hP hD hS 0 rfl rfl 0 (Nat.le_of_ble_eq_true rfl) f_13 rfl rfl hin rfl (by decide +kernel) rfl rfl (Nat.le_of_ble_eq_true rfl) rfl dX5_init_12 (fun H locs hP hD hS => ?_)
  refine lv_aload_n hx hb dX5_init_15 rfl (lv_at hl 0 rfl) ?_
  refine lv_iconst (v := 0) hx hb dX5_init_16 (by decide) ?_
  refine pf (ci := 5) (v := .int 0) (ty := .int) (C := RX5) (T := TX5) (N := 3) (ws' := [(h_, .inr (5, [.ref q1, .int 0, .int 0])), (q1, .inl (k2, N, .inl (fun _ => 0)))]) hx hb hts i_X5 tyX5_ok nmX5 hown hK hP hD hS 0 rfl rfl 1 (Nat.le_of_ble_eq_true rfl) f_19 rfl rfl (by decide +kernel) rfl rfl (Nat.le_of_ble_eq_true rfl) rfl dX5_init_17 (fun H locs hP hD hS => ?_)
  refine lv_aload_n hx hb dX5_init_20 rfl (lv_at hl 0 rfl) ?_
  refine lv_iconst (v := 0) hx hb dX5_init_21 (by decide) ?_
  refine pf (ci := 5) (v := .int 0) (ty := .int) (C := RX5) (T := TX5) (N := 3) (ws' := [(h_, .inr (5, [.ref q1, .int 0, .int 0])), (q1, .inl (k2, N, .inl (fun _ => 0)))]) hx hb hts i_X5 tyX5_ok nmX5 hown hK hP hD hS 0 rfl rfl 2 (Nat.le_of_ble_eq_true rfl) f_23 rfl rfl (by decide +kernel) rfl rfl (Nat.le_of_ble_eq_true rfl) rfl dX5_init_22 (fun H locs hP hD hS => ?_)
  refine W.widen (k := 1) (n := N) (Nat.le_refl _) (Nat.le_of_eq (Nat.zero_add N)) ?_
  exact rC (wf := kX5_init_w h_ N) (tf := kX5_init_t) (q1, k2) hx hb hr hlocks hK hP hD hS dX5_init_25
def kX0_init_w (h_ : Nat) (_u : Unit) : va_W := [(h_, .inr (0, [.int 0, .int 0]))]
def kX0_init_t (_u : Unit) : List (ClassId × FieldType) := []
set_option maxHeartbeats 4000000 in
set_option maxRecDepth 100000 in
theorem kX0_init {l : Launch} (D : va_G) (h_ : Nat) : MC l yX0_init wsX0_init { frames := 1, cells := 0, slots := 0, locals := 20 } D [.ref h_] [(h_, .inr (0, [.int 0, .int 0]))] (kX0_init_w h_) kX0_init_t 0 0 := by
  refine MC.ofW (cc := cX0_init) (maxL := 1) (ret := none) (lv := [(0, .ref h_)]) (by decide +kernel) rfl (Nat.le_of_ble_eq_true rfl) rfl ?_
  intro p e s m args below meth c A ls hx hb hr hml hts hown hlocks hin hA hK hP hD hS hl
  replace hown : s.vm.findClass RX0 = some m.cls := hown
  replace hin : meth.name = "<init>" := hin
  refine lv_aload_n hx hb dX0_init_0 rfl (lv_at hl 0 rfl) ?_
  refine W.objInit hx hb hown (hts (.methodLink RX0 3 objectInit) (by decide +kernel)) (hts (.instanceMethod objectInit) (by decide +kernel)) (hts (.code objectInit ⟨#[0xb1]⟩ 1 none) (by decide +kernel)) rfl (by rw [hml]; exact hl.1) rfl dX0_init_1 (Nat.le_of_ble_eq_true rfl) (Nat.le_of_ble_eq_true rfl) ?_
  refine W.eq (g2 := F0 m 4 ls []) rfl ?_
  exact rC (wf := kX0_init_w h_) (tf := kX0_init_t) () hx hb hr hlocks hK hP hD hS dX0_init_4
def kX3_init_w (h_ : Nat) (_u : Unit) : va_W := [(h_, .inr (3, [.int 0, .int 0, .int 0, .int 0]))]
def kX3_init_t (_u : Unit) : List (ClassId × FieldType) := []
set_option maxHeartbeats 4000000 in
set_option maxRecDepth 100000 in
theorem kX3_init {l : Launch} (D : va_G) (h_ : Nat) : MC l yX3_init wsX3_init { frames := 1, cells := 0, slots := 0, locals := 20 } D [.ref h_] [(h_, .inr (3, [.int 0, .int 0, .int 0, .int 0]))] (kX3_init_w h_) kX3_init_t 0 0 := by
  refine MC.ofW (cc := cX3_init) (maxL := 1) (ret := none) (lv := [(0, .ref h_)]) (by decide +kernel) rfl (Nat.le_of_ble_eq_true rfl) rfl ?_
  intro p e s m args below meth c A ls hx hb hr hml hts hown hlocks hin hA hK hP hD hS hl
  replace hown : s.vm.findClass RX3 = some m.cls := hown
  replace hin : meth.name = "<init>" := hin
  refine lv_aload_n hx hb dX3_init_0 rfl (lv_at hl 0 rfl) ?_
  refine W.objInit hx hb hown (hts (.methodLink RX3 1 objectInit) (by decide +kernel)) (hts (.instanceMethod objectInit) (by decide +kernel)) (hts (.code objectInit ⟨#[0xb1]⟩ 1 none) (by decide +kernel)) rfl (by rw [hml]; exact hl.1) rfl dX3_init_1 (Nat.le_of_ble_eq_true rfl) (Nat.le_of_ble_eq_true rfl) ?_
  refine W.eq (g2 := F0 m 4 ls []) rfl ?_
  exact rC (wf := kX3_init_w h_) (tf := kX3_init_t) () hx hb hr hlocks hK hP hD hS dX3_init_4
def kX4_init_w (h_ : Nat) (_u : Unit) : va_W := [(h_, .inr (4, [.int 0, .int 0, .int 0, .int (bI false), .int (bI false), .int (bI false), .int (bI false)]))]
def kX4_init_t (_u : Unit) : List (ClassId × FieldType) := []
set_option maxHeartbeats 4000000 in
set_option maxRecDepth 100000 in
theorem kX4_init {l : Launch} (D : va_G) (h_ : Nat) : MC l yX4_init wsX4_init { frames := 1, cells := 0, slots := 0, locals := 20 } D [.ref h_] [(h_, .inr (4, [.int 0, .int 0, .int 0, .int (bI false), .int (bI false), .int (bI false), .int (bI false)]))] (kX4_init_w h_) kX4_init_t 0 0 := by
  refine MC.ofW (cc := cX4_init) (maxL := 1) (ret := none) (lv := [(0, .ref h_)]) (by decide +kernel) rfl (Nat.le_of_ble_eq_true rfl) rfl ?_
  intro p e s m args below meth c A ls hx hb hr hml hts hown hlocks hin hA hK hP hD hS hl
  replace hown : s.vm.findClass RX4 = some m.cls := hown
  replace hin : meth.name = "<init>" := hin
  refine lv_aload_n hx hb dX4_init_0 rfl (lv_at hl 0 rfl) ?_
  refine W.objInit hx hb hown (hts (.methodLink RX4 3 objectInit) (by decide +kernel)) (hts (.instanceMethod objectInit) (by decide +kernel)) (hts (.code objectInit ⟨#[0xb1]⟩ 1 none) (by decide +kernel)) rfl (by rw [hml]; exact hl.1) rfl dX4_init_1 (Nat.le_of_ble_eq_true rfl) (Nat.le_of_ble_eq_true rfl) ?_
  refine W.eq (g2 := F0 m 4 ls []) rfl ?_
  exact rC (wf := kX4_init_w h_) (tf := kX4_init_t) () hx hb hr hlocks hK hP hD hS dX4_init_4
def kX6_init_w (h_ : Nat) (_u : Unit) : va_W := [(h_, .inr (6, [.int 0, .int 0, .int 0, .int (bI false)]))]
def kX6_init_t (_u : Unit) : List (ClassId × FieldType) := []
set_option maxHeartbeats 4000000 in
set_option maxRecDepth 100000 in
theorem kX6_init {l : Launch} (D : va_G) (h_ : Nat) : MC l yX6_init wsX6_init { frames := 1, cells := 0, slots := 0, locals := 20 } D [.ref h_] [(h_, .inr (6, [.int 0, .int 0, .int 0, .int (bI false)]))] (kX6_init_w h_) kX6_init_t 0 0 := by
  refine MC.ofW (cc := cX6_init) (maxL := 1) (ret := none) (lv := [(0, .ref h_)]) (by decide +kernel) rfl (Nat.le_of_ble_eq_true rfl) rfl ?_
  intro p e s m args below meth c A ls hx hb hr hml hts hown hlocks hin hA hK hP hD hS hl
  replace hown : s.vm.findClass RX6 = some m.cls := hown
  replace hin : meth.name = "<init>" := hin
  refine lv_aload_n hx hb dX6_init_0 rfl (lv_at hl 0 rfl) ?_
  refine W.objInit hx hb hown (hts (.methodLink RX6 3 objectInit) (by decide +kernel)) (hts (.instanceMethod objectInit) (by decide +kernel)) (hts (.code objectInit ⟨#[0xb1]⟩ 1 none) (by decide +kernel)) rfl (by rw [hml]; exact hl.1) rfl dX6_init_1 (Nat.le_of_ble_eq_true rfl) (Nat.le_of_ble_eq_true rfl) ?_
  refine W.eq (g2 := F0 m 4 ls []) rfl ?_
  exact rC (wf := kX6_init_w h_) (tf := kX6_init_t) () hx hb hr hlocks hK hP hD hS dX6_init_4
def kX1_init_w (h_ : Nat) (u : Nat × Nat × ClassId) : va_W := [(h_, .inr (1, [.ref u.1, .int (bI false)])), (u.1, .inr (5, [.ref u.2.1, .int 0, .int 0])), (u.2.1, .inl (u.2.2, 500, .inl (fun _ => 0)))]
def kX1_init_t (u : Nat × Nat × ClassId) : List (ClassId × FieldType) := [(u.2.2, .int)]
set_option maxHeartbeats 4000000 in
set_option maxRecDepth 100000 in
theorem kX1_init {l : Launch} (D : va_G) (h_ : Nat) : MC l yX1_init wsX1_init { frames := 2, cells := 2, slots := 503, locals := 45 } D [.ref h_] [(h_, .inr (1, [.null, .int (bI false)]))] (kX1_init_w h_) kX1_init_t 2 503 := by
  refine MC.ofW (cc := cX1_init) (maxL := 1) (ret := none) (lv := [(0, .ref h_)]) (by decide +kernel) rfl (Nat.le_of_ble_eq_true rfl) rfl ?_
  intro p e s m args below meth c A ls hx hb hr hml hts hown hlocks hin hA hK hP hD hS hl
  replace hown : s.vm.findClass RX1 = some m.cls := hown
  replace hin : meth.name = "<init>" := hin
  have i_X1 : ∀ w ∈ wsX10, w ∈ wsX1_init := by decide +kernel
  have i_X5 : ∀ w ∈ wsX50, w ∈ wsX1_init := by decide +kernel
  have f_14 := hts (.fieldLink RX1 14 "SerialPort$LineIn" "wave" "LSerialPort$Ring;") (by decide +kernel)
  refine lv_aload_n hx hb dX1_init_0 rfl (lv_at hl 0 rfl) ?_
  refine W.objInit hx hb hown (hts (.methodLink RX1 3 objectInit) (by decide +kernel)) (hts (.instanceMethod objectInit) (by decide +kernel)) (hts (.code objectInit ⟨#[0xb1]⟩ 1 none) (by decide +kernel)) rfl (by rw [hml]; exact hl.1) rfl dX1_init_1 (Nat.le_of_ble_eq_true rfl) (Nat.le_of_ble_eq_true rfl) ?_
  refine W.eq (g2 := F0 m 4 ls []) rfl ?_
  refine lv_aload_n hx hb dX1_init_4 rfl (lv_at hl 0 rfl) ?_
  refine va_new (ci := 5) (fs := [.null, .int 0, .int 0]) (C := RX5) (T := TX5) (N := 3) hx hb hts i_X5 tyX5 tyX5_ok hown (hts (.classLink RX1 9 RX5) (by decide +kernel)) (hts (.instantiable RX5 3) (by decide +kernel)) (hts (.initialized RX5) (by decide +kernel)) hK hP hD hS hA rfl (fun j hj => by rcases (show j = 0 ∨ j = 1 ∨ j = 2 by omega) with rfl | rfl | rfl <;> rfl) (Nat.le_of_ble_eq_true rfl) (Nat.le_of_ble_eq_true rfl) dX1_init_5 (fun q1 H hP hD hS => ?_)
  replace hP : va_P D vwCl [(h_, .inr (1, [.null, .int (bI false)])), (q1, .inr (5, [.null, .int 0, .int 0]))] H := hP
  replace hD : va_D A [(h_, .inr (1, [.null, .int (bI false)])), (q1, .inr (5, [.null, .int 0, .int 0]))] := hD
  refine lv_dup hx hb dX1_init_8 rfl ?_
  refine lv_sipush (v := 500) hx hb dX1_init_9 (by decide) ?_
  refine cNI (As := [.int (nI 500)]) (rest := [.ref q1, .ref h_]) (wr := [(h_, .inr (1, [.null, .int (bI false)]))]) ⟨hx, hb, hml, hown, hts⟩ (kX5_init D q1 500 (by decide) (by decide) (by decide)) (cwI 1 hts gX1_init_X5_init rfl rfl rfl (hts (.initialized RX5) (by decide +kernel)) (hts (.methodLink RX1 11 yX5_init) (by decide +kernel)) (hts (.instanceMethod yX5_init) (by decide +kernel)) rfl (by decide +kernel) ⟨Nat.le_of_ble_eq_true rfl, Nat.le_of_ble_eq_true rfl⟩) hK hP hD hS hA [1] [0] rfl rfl rfl rfl hl.1 rfl (Nat.le_of_ble_eq_true rfl) dX1_init_12 ⟨Nat.le_of_ble_eq_true rfl, Nat.le_of_ble_eq_true rfl⟩ (fun u2 H locs hK hP hD hS => ?_)
  obtain ⟨q3, k4⟩ := u2
  replace hK : va_K D vwCl [(k4, .int)] s := hK
  replace hP : va_P D vwCl [(h_, .inr (1, [.null, .int (bI false)])), (q1, .inr (5, [.ref q3, .int 0, .int 0])), (q3, .inl (k4, 500, .inl (fun _ => 0)))] H := hP
  replace hD : va_D A [(h_, .inr (1, [.null, .int (bI false)])), (q1, .inr (5, [.ref q3, .int 0, .int 0])), (q3, .inl (k4, 500, .inl (fun _ => 0)))] := hD
  refine pfF (ci := 1) (v := .ref q1) (ty := .object "SerialPort$Ring") (C := RX1) (T := TX1) (N := 2) (ws' := [(h_, .inr (1, [.ref q1, .int (bI false)])), (q1, .inr (5, [.ref q3, .int 0, .int 0])), (q3, .inl (k4, 500, .inl (fun _ => 0)))]) hx hb hts i_X1 tyX1_ok nmX1 hown hK hP hD hS 0 rfl rfl 0 (Nat.le_of_ble_eq_true rfl) f_14 rfl rfl hin rfl (by decide +kernel) rfl rfl (Nat.le_of_ble_eq_true rfl) rfl dX1_init_15 (fun H locs hP hD hS => ?_)
  exact rC (wf := kX1_init_w h_) (tf := kX1_init_t) (q1, q3, k4) hx hb hr hlocks hK hP hD hS dX1_init_18
def kX2_init_w (h_ : Nat) (u : Nat × Nat × ClassId) : va_W := [(h_, .inr (2, [.ref u.1, .int 0])), (u.1, .inr (5, [.ref u.2.1, .int 0, .int 0])), (u.2.1, .inl (u.2.2, 40, .inl (fun _ => 0)))]
def kX2_init_t (u : Nat × Nat × ClassId) : List (ClassId × FieldType) := [(u.2.2, .int)]
set_option maxHeartbeats 4000000 in
set_option maxRecDepth 100000 in
theorem kX2_init {l : Launch} (D : va_G) (h_ : Nat) : MC l yX2_init wsX2_init { frames := 2, cells := 2, slots := 43, locals := 45 } D [.ref h_] [(h_, .inr (2, [.null, .int 0]))] (kX2_init_w h_) kX2_init_t 2 43 := by
  refine MC.ofW (cc := cX2_init) (maxL := 1) (ret := none) (lv := [(0, .ref h_)]) (by decide +kernel) rfl (Nat.le_of_ble_eq_true rfl) rfl ?_
  intro p e s m args below meth c A ls hx hb hr hml hts hown hlocks hin hA hK hP hD hS hl
  replace hown : s.vm.findClass RX2 = some m.cls := hown
  replace hin : meth.name = "<init>" := hin
  have i_X2 : ∀ w ∈ wsX20, w ∈ wsX2_init := by decide +kernel
  have i_X5 : ∀ w ∈ wsX50, w ∈ wsX2_init := by decide +kernel
  have f_14 := hts (.fieldLink RX2 14 "SerialPort$LineOut" "runs" "LSerialPort$Ring;") (by decide +kernel)
  refine lv_aload_n hx hb dX2_init_0 rfl (lv_at hl 0 rfl) ?_
  refine W.objInit hx hb hown (hts (.methodLink RX2 3 objectInit) (by decide +kernel)) (hts (.instanceMethod objectInit) (by decide +kernel)) (hts (.code objectInit ⟨#[0xb1]⟩ 1 none) (by decide +kernel)) rfl (by rw [hml]; exact hl.1) rfl dX2_init_1 (Nat.le_of_ble_eq_true rfl) (Nat.le_of_ble_eq_true rfl) ?_
  refine W.eq (g2 := F0 m 4 ls []) rfl ?_
  refine lv_aload_n hx hb dX2_init_4 rfl (lv_at hl 0 rfl) ?_
  refine va_new (ci := 5) (fs := [.null, .int 0, .int 0]) (C := RX5) (T := TX5) (N := 3) hx hb hts i_X5 tyX5 tyX5_ok hown (hts (.classLink RX2 9 RX5) (by decide +kernel)) (hts (.instantiable RX5 3) (by decide +kernel)) (hts (.initialized RX5) (by decide +kernel)) hK hP hD hS hA rfl (fun j hj => by rcases (show j = 0 ∨ j = 1 ∨ j = 2 by omega) with rfl | rfl | rfl <;> rfl) (Nat.le_of_ble_eq_true rfl) (Nat.le_of_ble_eq_true rfl) dX2_init_5 (fun q1 H hP hD hS => ?_)
  replace hP : va_P D vwCl [(h_, .inr (2, [.null, .int 0])), (q1, .inr (5, [.null, .int 0, .int 0]))] H := hP
  replace hD : va_D A [(h_, .inr (2, [.null, .int 0])), (q1, .inr (5, [.null, .int 0, .int 0]))] := hD
  refine lv_dup hx hb dX2_init_8 rfl ?_
  refine lv_bipush (v := 40) hx hb dX2_init_9 (by decide) ?_
  refine cNI (As := [.int (nI 40)]) (rest := [.ref q1, .ref h_]) (wr := [(h_, .inr (2, [.null, .int 0]))]) ⟨hx, hb, hml, hown, hts⟩ (kX5_init D q1 40 (by decide) (by decide) (by decide)) (cwI 1 hts gX2_init_X5_init rfl rfl rfl (hts (.initialized RX5) (by decide +kernel)) (hts (.methodLink RX2 11 yX5_init) (by decide +kernel)) (hts (.instanceMethod yX5_init) (by decide +kernel)) rfl (by decide +kernel) ⟨Nat.le_of_ble_eq_true rfl, Nat.le_of_ble_eq_true rfl⟩) hK hP hD hS hA [1] [0] rfl rfl rfl rfl hl.1 rfl (Nat.le_of_ble_eq_true rfl) dX2_init_11 ⟨Nat.le_of_ble_eq_true rfl, Nat.le_of_ble_eq_true rfl⟩ (fun u2 H locs hK hP hD hS => ?_)
  obtain ⟨q3, k4⟩ := u2
  replace hK : va_K D vwCl [(k4, .int)] s := hK
  replace hP : va_P D vwCl [(h_, .inr (2, [.null, .int 0])), (q1, .inr (5, [.ref q3, .int 0, .int 0])), (q3, .inl (k4, 40, .inl (fun _ => 0)))] H := hP
  replace hD : va_D A [(h_, .inr (2, [.null, .int 0])), (q1, .inr (5, [.ref q3, .int 0, .int 0])), (q3, .inl (k4, 40, .inl (fun _ => 0)))] := hD
  refine pfF (ci := 2) (v := .ref q1) (ty := .object "SerialPort$Ring") (C := RX2) (T := TX2) (N := 2) (ws' := [(h_, .inr (2, [.ref q1, .int 0])), (q1, .inr (5, [.ref q3, .int 0, .int 0])), (q3, .inl (k4, 40, .inl (fun _ => 0)))]) hx hb hts i_X2 tyX2_ok nmX2 hown hK hP hD hS 0 rfl rfl 0 (Nat.le_of_ble_eq_true rfl) f_14 rfl rfl hin rfl (by decide +kernel) rfl rfl (Nat.le_of_ble_eq_true rfl) rfl dX2_init_14 (fun H locs hP hD hS => ?_)
  exact rC (wf := kX2_init_w h_) (tf := kX2_init_t) (q1, q3, k4) hx hb hr hlocks hK hP hD hS dX2_init_17
