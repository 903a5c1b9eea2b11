/-! The law's own two methods, which catch. -/
theorem MI.ofWH {l : Launch} {y : MethodName} {w w' : List Cond} {rm : Room} {D : va_G} {tys : List (ClassId × FieldType)} {av : List Value} {ws ws' : va_W} {r : Int32} {cc : ByteArray} {maxL : Nat} {ret : Option FieldType} {hh : List (Nat × Nat × Nat × Nat)} {lv : List (Nat × Value)}
    (hy : plainName y.cls = true) (hw : w = Cond.codeWith y cc maxL ret hh :: w') (hav : (lg_sl av).length ≤ maxL) (hlv : lv_args 0 av = lv)
    (body : ∀ (p : Program) (e : Env) (s : State) (m : MethodId) (args : Array Value) (below : List Frame) (meth : Method) (c : Code) (A : Nat → Prop) (ls : Array Slot), p.tables.exec = Jvm.exec → c.code = cc → meth.sig.returnType = ret → c.maxLocals = maxL → (∀ q ∈ w, q.before args s = true) → s.vm.findClass y.cls = some m.cls → meth.locks = false → (∀ q : Nat, s.heap.size ≤ q → A q) → va_K D vwCl tys s → va_P D vwCl ws s.heap → va_D A ws → va_S A s.heap s.heap [] → lv_has ls maxL lv → W p l e rm s m args below meth c s.heap [] 0 0 (QI below D tys ws' r args s A) (F0 m 0 ls [])) : MI l y w rm D tys av ws ws' r := by
  intro sz
  refine va_MetW (cc := cc) (maxL := maxL) (ret := ret) (hh := hh) hy hw ?_
  intro p e s m args below meth c s₁ B hml hv
  obtain ⟨rfl, hsz, hP, hK, hD0⟩ := hv
  have hts := atoms_spec (ws := w) B.pre
  have hown : s.vm.findClass y.cls = some m.cls := findClass_of_methodNamed B.named
  subst hsz
  have hl := lv_entry av (n := maxL) hav
  rw [lg_entry_eq]
  rw [hlv] at hl
  exact body p e s m av.toArray below meth c (va_A ws s.heap.size) _ B.exec B.bytes B.returns hml hts hown B.notSynchronized (fun q h => Or.inr h) hK hP (hD0.self (sz := s.heap.size)) va_S.rf hl
section RowsW
variable {p : Program} {l : Launch} {e : Env} {R : Room} {s : State} {m : MethodId} {args : Array Value} {below : List Frame} {meth : Method} {c : Code} {H H0 : Heap} {locs : List Loc} {cells slots : Nat} {Q : State → Prop} {cc : ByteArray} {pc : Nat} {ls : Array Slot} {rest : List Value} {A : Nat → Prop} {D : va_G} {tys : List (ClassId × FieldType)} {ws ws' : va_W}
theorem cSIW {Ts w : List Cond} {nL index maxL n : Nat} {own : String} {y : MethodName} {bytes : ByteArray} {ret : Option FieldType} {hh : List (Nat × Nat × Nat × Nat)} {rm : Room} {tysC : List (ClassId × FieldType)} {As st0 : List Value} {wc wr w1 : va_W} {r rv : Int32} (S : CallFix p m c cc nL s args Ts own) (hM : MI l y w rm D tysC As wc w1 r) (cw : vx_CSW R s args own index y bytes maxL ret hh w rm 0 0 n)
    (hK : va_K D vwCl tys s) (hP : va_P D vwCl ws H) (hD : va_D A ws) (hS : va_S A H0 H locs) (hA : ∀ q, H0.size ≤ q → A q) (isT isC isR isN : List Nat) (hT : isT.filterMap (fun i => tys[i]?) = tysC) (hCs : isC.map (fun i => ws[i]?) = wc.map some) (hR : isR.map (fun i => ws[i]?) = wr.map some) (hnn : (va_nd isR && va_nd isC && va_nd isN && isR.all (fun i => !(isC.contains i))) = true) (hN : isN.map (fun i => (wr ++ w1)[i]?) = ws'.map some) (hn : As.length = n) (hsize : ls.size = nL) (hstack : st0 = As.reverse ++ rest) (hrm : (rest.map fun v => v.category).sum ≤ 8) (hrv : r = rv) (hdg : decode cc pc = .ok (.invokestatic index, 3)) (hcl : cells ≤ R.cells ∧ slots ≤ R.slots)
    (kk : ∀ (H1 : Heap) (locs1 : List Loc), va_P D vwCl ws' H1 → va_D A ws' → va_S A H0 H1 locs1 → W p l e R s m args below meth c H1 locs1 cells slots Q (F0 m (pc + 3) ls (.int rv :: rest))) : W p l e R s m args below meth c H locs cells slots Q (F0 m pc ls st0) := by
  have hPc := hP.sub (ws' := wc) isC (fm_of hCs)
  have hDc : va_D A wc := hD.sub (ws' := wc) isC (by
    simp only [Bool.and_eq_true] at hnn
    exact hnn.1.1.2) hCs
  have hKc := hK.sub (tys' := tysC) isT hT
  have hpre : ∀ U : State, U.heap = H → s.WarmedH U.vm → va_Pc As (cPre D tysC wc H.size) (As : List Value).toArray U := fun U hU hW => ⟨rfl, by rw [hU], by rw [hU]; exact hPc, va_K.moved hW.alike hKc, hDc.weaken (fun _ _ _ _ => trivial)⟩
  exact cI_core (vx_runSW (As := As) (rest := rest) S (hM H.size) cw ⟨c_blind, hpre⟩ rfl hn hsize hstack (lv_room hrm) hdg ⟨hcl.1, hcl.2⟩) hK hP hD hS hA isT isC isR isN hT hCs hR hnn hN hrv kk
end RowsW
theorem RV.same {b : Nat} {u U : State} (hv : U.vm = u.vm) (hh : U.heap = u.heap) (h : RV b u) : RV b U := by
  obtain ⟨cell, h1, h2, h3⟩ := h
  exact ⟨cell, by rw [hh]; exact h1, h2, by rw [hv]; exact h3⟩
abbrev aJ (h : Nat) (k : ClassId) (f : Nat → Int64) : Nat × va_E := (h, .inl (k, 1, .inr (.inl f)))
set_option maxHeartbeats 4000000 in
set_option maxRecDepth 100000 in
theorem mL_write {l : Launch} (D : va_G) (k_sending_cells : ClassId) (h_ : Nat) (h_divider : Nat) (h_received : Nat) (h_sending : Nat) (h_sender : Nat) (h_receiver : Nat) (h_modem : Nat) (h_lineIn : Nat) (h_lineOut : Nat) (h_received_cells : Nat) (h_sending_cells : Nat) (v_wanted : Int32) (v_lineControl : Int32) (v_kept : Int32) (v_level : Int32) (v_rowsOn : Bool) (v_overrun : Bool) (v_emptyUp : Bool) (v_lateUp : Bool) (v_beats : Int32) (v_quietSince : Int32) (v_divider_divisor : Int32) (v_divider_passed : Int32) (v_received_head : Int32) (v_received_size : Int32) (v_sending_head : Int32) (v_sending_size : Int32) (v_sending_cells_n : Nat) (v_sending_cells_a : Nat → Int32) (v_modem_outputs : Int32) (v_modem_pins : Int32) (v_modem_state : Int32) (v_modem_changes : Int32) (p1 : Int32) (p2 : Int32) (u0 : Int32 × Int32 × Int32 × Int32 × Bool × Bool × Bool × Int32 × Int32 × Int32 × Int32 × Int32 × Int32 × (Nat → Int32) × Int32 × Int32 × Int32) (hF : F_X8_write p1 p2 v_wanted v_lineControl v_kept v_level v_rowsOn v_emptyUp v_lateUp v_divider_divisor v_divider_passed v_received_head v_received_size v_sending_head v_sending_size v_sending_cells_n v_sending_cells_a v_modem_outputs v_modem_pins v_modem_state v_modem_changes = some u0) : MI l yL_write wsL_write { frames := 6, cells := 0, slots := 0, locals := 132 } D [(k_sending_cells, .int)] [.ref h_, .int p1, .int p2] [oX8 h_ h_divider h_received h_sending h_sender h_receiver h_modem h_lineIn h_lineOut v_wanted v_lineControl v_kept v_level v_rowsOn v_overrun v_emptyUp v_lateUp v_beats v_quietSince, oX0 h_divider v_divider_divisor v_divider_passed, oX5 h_received h_received_cells v_received_head v_received_size, oX5 h_sending h_sending_cells v_sending_head v_sending_size, aI h_sending_cells k_sending_cells v_sending_cells_n v_sending_cells_a, oX3 h_modem v_modem_outputs v_modem_pins v_modem_state v_modem_changes] (wX8_write k_sending_cells h_ h_divider h_received h_sending h_sender h_receiver h_modem h_lineIn h_lineOut h_received_cells h_sending_cells v_overrun v_beats v_quietSince v_sending_cells_n v_modem_pins u0) 0 := by
  refine MI.ofWH (cc := cL_write) (maxL := 4) (ret := (some .int)) (lv := [(0, .ref h_), (1, .int p1), (2, .int p2)]) (by decide +kernel) rfl (Nat.le_of_ble_eq_true rfl) rfl ?_
  intro p e s m args below meth c A ls hx hb hr hml hts hown hlocks hA hK hP hD hS hl
  replace hown : s.vm.findClass RL = some m.cls := hown
  refine lv_aload_n hx hb dL_write_0 rfl (lv_at hl 0 rfl) ?_
  refine lv_iload_n hx hb dL_write_1 rfl (lv_at hl 1 rfl) ?_
  refine lv_iload_n hx hb dL_write_2 rfl (lv_at hl 2 rfl) ?_
  refine cVV (q0 := 0) (ci := 7) (As := [.int p1, .int p2]) (rest := []) (wr := []) (ws' := (wX8_write k_sending_cells h_ h_divider h_received h_sending h_sender h_receiver h_modem h_lineIn h_lineOut h_received_cells h_sending_cells v_overrun v_beats v_quietSince v_sending_cells_n v_modem_pins u0)) ⟨hx, hb, hml, hown, hts⟩ (mX8_write D k_sending_cells h_ h_divider h_received h_sending h_sender h_receiver h_modem h_lineIn h_lineOut h_received_cells h_sending_cells v_wanted v_lineControl v_kept v_level v_rowsOn v_overrun v_emptyUp v_lateUp v_beats v_quietSince v_divider_divisor v_divider_passed v_received_head v_received_size v_sending_head v_sending_size v_sending_cells_n v_sending_cells_a v_modem_outputs v_modem_pins v_modem_state v_modem_changes p1 p2 u0 hF) (cwV 2 hts gL_write_X8_write rfl rfl rfl (by decide +kernel) ⟨Nat.le_of_ble_eq_true rfl, Nat.le_of_ble_eq_true rfl⟩) hK hP hD hS hA [0] [0, 1, 2, 3, 4, 5] [] [0, 1, 2, 3, 4, 5] rfl rfl rfl rfl rfl rfl rfl rfl rfl hl.1 rfl (Nat.le_of_ble_eq_true rfl) dL_write_3 ⟨Nat.le_refl _, Nat.le_refl _⟩ (fun H locs hP hD hS => ?_)
  refine lv_goto (tgt := 12) hx hb dL_write_6 (by decide) ?_
  refine lv_iconst (v := 0) hx hb dL_write_12 (by decide) ?_
  exact rI (α := Unit) (wf := fun _ => (wX8_write k_sending_cells h_ h_divider h_received h_sending h_sender h_receiver h_modem h_lineIn h_lineOut h_received_cells h_sending_cells v_overrun v_beats v_quietSince v_sending_cells_n v_modem_pins u0)) (rf := fun _ => 0) (u := ()) (u0 := ()) hx hb hr hlocks hK hP hD hS rfl rfl dL_write_13
set_option maxHeartbeats 4000000 in
set_option maxRecDepth 100000 in
theorem mL_read {l : Launch} (D : va_G) (k_received_cells : ClassId) (h_ : Nat) (h_divider : Nat) (h_received : Nat) (h_sending : Nat) (h_sender : Nat) (h_receiver : Nat) (h_modem : Nat) (h_lineIn : Nat) (h_lineOut : Nat) (h_received_cells : Nat) (h_sending_cells : Nat) (v_wanted : Int32) (v_lineControl : Int32) (v_kept : Int32) (v_level : Int32) (v_rowsOn : Bool) (v_overrun : Bool) (v_emptyUp : Bool) (v_lateUp : Bool) (v_beats : Int32) (v_quietSince : Int32) (v_divider_divisor : Int32) (v_divider_passed : Int32) (v_received_head : Int32) (v_received_size : Int32) (v_received_cells_n : Nat) (v_received_cells_a : Nat → Int32) (v_sending_head : Int32) (v_sending_size : Int32) (v_sender_control : Int32) (v_sender_character : Int32) (v_sender_beat : Int32) (v_sender_busy : Bool) (v_modem_outputs : Int32) (v_modem_pins : Int32) (v_modem_state : Int32) (v_modem_changes : Int32) (k_out : ClassId) (h_out : Nat) (f_out : Nat → Int64) (p1 : Int32) (u0 : Int32 × Bool × Bool × Bool × Int32 × Int32 × Int32 × (Nat → Int32) × Int32) (hF : F_X8_read p1 v_wanted v_lineControl v_kept v_level v_rowsOn v_overrun v_emptyUp v_lateUp v_beats v_quietSince v_divider_divisor v_received_head v_received_size v_received_cells_n v_received_cells_a v_sending_size v_sender_busy v_modem_outputs v_modem_state v_modem_changes = some u0) : MI l yL_read wsL_read { frames := 8, cells := 0, slots := 0, locals := 167 } D [(k_received_cells, .int), (k_out, .long)] [.ref h_, .int p1, .ref h_out] [oX8 h_ h_divider h_received h_sending h_sender h_receiver h_modem h_lineIn h_lineOut v_wanted v_lineControl v_kept v_level v_rowsOn v_overrun v_emptyUp v_lateUp v_beats v_quietSince, oX0 h_divider v_divider_divisor v_divider_passed, oX5 h_received h_received_cells v_received_head v_received_size, aI h_received_cells k_received_cells v_received_cells_n v_received_cells_a, oX5 h_sending h_sending_cells v_sending_head v_sending_size, oX6 h_sender v_sender_control v_sender_character v_sender_beat v_sender_busy, oX3 h_modem v_modem_outputs v_modem_pins v_modem_state v_modem_changes, aJ h_out k_out f_out] [oX8 h_ h_divider h_received h_sending h_sender h_receiver h_modem h_lineIn h_lineOut v_wanted v_lineControl v_kept v_level v_rowsOn u0.2.1 u0.2.2.1 u0.2.2.2.1 v_beats u0.2.2.2.2.1, oX0 h_divider v_divider_divisor v_divider_passed, oX5 h_received h_received_cells u0.2.2.2.2.2.1 u0.2.2.2.2.2.2.1, aI h_received_cells k_received_cells v_received_cells_n u0.2.2.2.2.2.2.2.1, oX5 h_sending h_sending_cells v_sending_head v_sending_size, oX6 h_sender v_sender_control v_sender_character v_sender_beat v_sender_busy, oX3 h_modem v_modem_outputs v_modem_pins v_modem_state u0.2.2.2.2.2.2.2.2, aJ h_out k_out (vp_updL f_out 0 u0.1.toInt64)] 0 := by
  refine MI.ofWH (cc := cL_read) (maxL := 4) (ret := (some .int)) (lv := [(0, .ref h_), (1, .int p1), (2, .ref h_out)]) (by decide +kernel) rfl (Nat.le_of_ble_eq_true rfl) rfl ?_
  intro p e s m args below meth c A ls hx hb hr hml hts hown hlocks hA hK hP hD hS hl
  replace hown : s.vm.findClass RL = some m.cls := hown
  refine lv_aload_n hx hb dL_read_0 rfl (lv_at hl 2 rfl) ?_
  refine lv_iconst (v := 0) hx hb dL_read_1 (by decide) ?_
  refine lv_aload_n hx hb dL_read_2 rfl (lv_at hl 0 rfl) ?_
  refine lv_iload_n hx hb dL_read_3 rfl (lv_at hl 1 rfl) ?_
  refine cVI (q0 := 0) (ci := 7) (As := [.int p1]) (rest := [.int 0, .ref h_out]) (wr := [aJ h_out k_out f_out]) (ws' := [oX8 h_ h_divider h_received h_sending h_sender h_receiver h_modem h_lineIn h_lineOut v_wanted v_lineControl v_kept v_level v_rowsOn u0.2.1 u0.2.2.1 u0.2.2.2.1 v_beats u0.2.2.2.2.1, oX0 h_divider v_divider_divisor v_divider_passed, oX5 h_received h_received_cells u0.2.2.2.2.2.1 u0.2.2.2.2.2.2.1, aI h_received_cells k_received_cells v_received_cells_n u0.2.2.2.2.2.2.2.1, oX5 h_sending h_sending_cells v_sending_head v_sending_size, oX6 h_sender v_sender_control v_sender_character v_sender_beat v_sender_busy, oX3 h_modem v_modem_outputs v_modem_pins v_modem_state u0.2.2.2.2.2.2.2.2, aJ h_out k_out f_out]) (rv := u0.1) ⟨hx, hb, hml, hown, hts⟩ (mX8_read D k_received_cells h_ h_divider h_received h_sending h_sender h_receiver h_modem h_lineIn h_lineOut h_received_cells h_sending_cells v_wanted v_lineControl v_kept v_level v_rowsOn v_overrun v_emptyUp v_lateUp v_beats v_quietSince v_divider_divisor v_divider_passed v_received_head v_received_size v_received_cells_n v_received_cells_a v_sending_head v_sending_size v_sender_control v_sender_character v_sender_beat v_sender_busy v_modem_outputs v_modem_pins v_modem_state v_modem_changes p1 u0 hF) (cwV 1 hts gL_read_X8_read rfl rfl rfl (by decide +kernel) ⟨Nat.le_of_ble_eq_true rfl, Nat.le_of_ble_eq_true rfl⟩) hK hP hD hS hA [0] [0, 1, 2, 3, 4, 5, 6] [7] [1, 2, 3, 4, 5, 6, 7, 0] rfl rfl rfl rfl rfl rfl rfl rfl rfl hl.1 rfl (Nat.le_of_ble_eq_true rfl) rfl dL_read_4 ⟨Nat.le_refl _, Nat.le_refl _⟩ (fun H locs hP hD hS => ?_)
  refine lv_i2l (v := u0.1.toInt64) hx hb dL_read_7 rfl ?_
  refine va_last hx hb hK hP hD hS 7 1 rfl rfl (show vp_in 0 1 by unfold vp_in; decide) dL_read_8 (fun H locs hP hD hS => ?_)
  replace hP : va_P D vwCl [oX8 h_ h_divider h_received h_sending h_sender h_receiver h_modem h_lineIn h_lineOut v_wanted v_lineControl v_kept v_level v_rowsOn u0.2.1 u0.2.2.1 u0.2.2.2.1 v_beats u0.2.2.2.2.1, oX0 h_divider v_divider_divisor v_divider_passed, oX5 h_received h_received_cells u0.2.2.2.2.2.1 u0.2.2.2.2.2.2.1, aI h_received_cells k_received_cells v_received_cells_n u0.2.2.2.2.2.2.2.1, oX5 h_sending h_sending_cells v_sending_head v_sending_size, oX6 h_sender v_sender_control v_sender_character v_sender_beat v_sender_busy, oX3 h_modem v_modem_outputs v_modem_pins v_modem_state u0.2.2.2.2.2.2.2.2, aJ h_out k_out (vp_updL f_out 0 u0.1.toInt64)] H := hP
  replace hD : va_D A [oX8 h_ h_divider h_received h_sending h_sender h_receiver h_modem h_lineIn h_lineOut v_wanted v_lineControl v_kept v_level v_rowsOn u0.2.1 u0.2.2.1 u0.2.2.2.1 v_beats u0.2.2.2.2.1, oX0 h_divider v_divider_divisor v_divider_passed, oX5 h_received h_received_cells u0.2.2.2.2.2.1 u0.2.2.2.2.2.2.1, aI h_received_cells k_received_cells v_received_cells_n u0.2.2.2.2.2.2.2.1, oX5 h_sending h_sending_cells v_sending_head v_sending_size, oX6 h_sender v_sender_control v_sender_character v_sender_beat v_sender_busy, oX3 h_modem v_modem_outputs v_modem_pins v_modem_state u0.2.2.2.2.2.2.2.2, aJ h_out k_out (vp_updL f_out 0 u0.1.toInt64)] := hD
  refine lv_goto (tgt := 15) hx hb dL_read_9 (by decide) ?_
  refine lv_iconst (v := 0) hx hb dL_read_15 (by decide) ?_
  exact rI (α := Unit) (wf := fun _ => [oX8 h_ h_divider h_received h_sending h_sender h_receiver h_modem h_lineIn h_lineOut v_wanted v_lineControl v_kept v_level v_rowsOn u0.2.1 u0.2.2.1 u0.2.2.2.1 v_beats u0.2.2.2.2.1, oX0 h_divider v_divider_divisor v_divider_passed, oX5 h_received h_received_cells u0.2.2.2.2.2.1 u0.2.2.2.2.2.2.1, aI h_received_cells k_received_cells v_received_cells_n u0.2.2.2.2.2.2.2.1, oX5 h_sending h_sending_cells v_sending_head v_sending_size, oX6 h_sender v_sender_control v_sender_character v_sender_beat v_sender_busy, oX3 h_modem v_modem_outputs v_modem_pins v_modem_state u0.2.2.2.2.2.2.2.2, aJ h_out k_out (vp_updL f_out 0 u0.1.toInt64)]) (rf := fun _ => 0) (u := ()) (u0 := ()) hx hb hr hlocks hK hP hD hS rfl rfl dL_read_16
set_option maxHeartbeats 4000000 in
set_option maxRecDepth 100000 in
theorem tL_write {l : Launch} (hst : l.stackTraces = false) (h_ sz sa : Nat) (r v : Int32) (hr0 : r < 0 ∨ ¬ r ≤ 7) : Met l yL_write wsL_write { frames := 7, cells := 1, slots := 6, locals := 120 } (va_Pc [.ref h_, .int r, .int v] (fun U => U.heap.size = sz ∧ XT sa (va_A [] sz) U ∧ RV h_ U)) (va_Qi (fun r' (_ : Unit) => r' = 1) (fun _ _ => True) (va_A [] sz)) 1 6 (va_A [] sz) := by
  refine va_MetW (cc := cL_write) (maxL := 4) (ret := (some .int)) (hh := [(0, 6, 9, 13)]) (by decide +kernel) rfl ?_
  intro p e s m args below meth c s₁ B hml hv
  obtain ⟨rfl, hsz, hXT, hRV⟩ := hv
  have hx := B.exec
  have hb := B.bytes
  have hr := B.returns
  have hts := atoms_spec (ws := wsL_write) B.pre
  have hown : s.vm.findClass RL = some m.cls := findClass_of_methodNamed B.named
  have hlocks := B.notSynchronized
  have htab := vx_table (x := yL_write) B (hts (.codeWith yL_write cL_write 4 (some .int) [(0, 6, 9, 13)]) List.mem_cons_self)
  subst hsz
  have hl := lv_entry ([.ref h_, .int r, .int v]) (n := 4) (Nat.le_of_ble_eq_true rfl)
  rw [lg_entry_eq]
  generalize (lg_sl ([.ref h_, .int r, .int v]) ++ List.replicate (4 - (lg_sl ([.ref h_, .int r, .int v])).length) Slot.unset).toArray = ls at hl ⊢
  replace hl : lv_has ls 4 [(0, .ref h_), (1, .int r), (2, .int v)] := hl
  have hS : va_S (va_A [] s.heap.size) s.heap s.heap [] := va_S.rf
  have hcast := va_Nw.use (A := ([.ref h_, .int r, .int v] : List Value).toArray) rfl hXT.2.2.2.1
  refine lv_aload_n hx hb dL_write_0 rfl (lv_at hl 0 rfl) ?_
  refine lv_iload_n hx hb dL_write_1 rfl (lv_at hl 1 rfl) ?_
  refine lv_iload_n hx hb dL_write_2 rfl (lv_at hl 2 rfl) ?_
  refine vx_callv (vx_runV (As := [.int r, .int v]) (rest := []) ⟨hx, hb, hml, hown, hts⟩ (tX8_write hst h_ s.heap.size sa r v hr0) (cwV 2 hts gL_write_X8_write rfl rfl rfl (by decide +kernel) ⟨Nat.le_of_ble_eq_true rfl, Nat.le_of_ble_eq_true rfl⟩) ⟨fun a U g mk q => by obtain ⟨q0, q1, q2⟩ := q; exact ⟨q0, q1, XT.same rfl rfl q2⟩, hRV, fun U hU hW => ⟨rfl, by rw [hU], XT.warm hW hU hS (fun q h => h) hXT⟩⟩ rfl rfl hl.1 rfl (lv_room (Nat.le_of_ble_eq_true rfl)) dL_write_3 ⟨Nat.le_of_ble_eq_true rfl, Nat.le_of_ble_eq_true rfl⟩) hS (fun q _ h => h) (fun q h => h) (fun q _ h => h) (fun E ce q9 u t H1 locs1 ht hvm hp hE hz hk hS hce hcv hcl => ?_) (fun u t H1 locs1 ht hvm hp hb9 hz hk hS1 => hp.elim)
  obtain rfl : E = NSE := hE
  refine sp_catch hown ⟨0, 6, 9, 13⟩ htab (by decide) (by decide) (hts (.classLink RL 13 "java/util/NoSuchElementException") (by decide +kernel)) hcast hce hcv hcl ?_
  refine lv_astore_n (lv' := [(3, .ref q9), (0, .ref h_), (1, .int r), (2, .int v)]) hx hb dL_write_9 rfl hl (Nat.le_of_ble_eq_true rfl) rfl (fun ls hl => ?_)
  refine lv_iconst (v := 1) hx hb dL_write_10 (by decide) ?_
  exact W.iret (v := 1) hx hb hr (fun t ht hW => ⟨⟨1, (), rfl, rfl, trivial⟩, hS.F ht⟩) hS.2.2 dL_write_11
set_option maxHeartbeats 4000000 in
set_option maxRecDepth 100000 in
theorem tL_read {l : Launch} (hst : l.stackTraces = false) (h_ h_out sz sa : Nat) (r : Int32) (hr0 : r < 0 ∨ ¬ r ≤ 7) : Met l yL_read wsL_read { frames := 7, cells := 1, slots := 6, locals := 120 } (va_Pc [.ref h_, .int r, .ref h_out] (fun U => U.heap.size = sz ∧ XT sa (va_A [] sz) U ∧ RV h_ U)) (va_Qi (fun r' (_ : Unit) => r' = 1) (fun _ _ => True) (va_A [] sz)) 1 6 (va_A [] sz) := by
  refine va_MetW (cc := cL_read) (maxL := 4) (ret := (some .int)) (hh := [(0, 9, 12, 13)]) (by decide +kernel) rfl ?_
  intro p e s m args below meth c s₁ B hml hv
  obtain ⟨rfl, hsz, hXT, hRV⟩ := hv
  have hx := B.exec
  have hb := B.bytes
  have hr := B.returns
  have hts := atoms_spec (ws := wsL_read) B.pre
  have hown : s.vm.findClass RL = some m.cls := findClass_of_methodNamed B.named
  have hlocks := B.notSynchronized
  have htab := vx_table (x := yL_read) B (hts (.codeWith yL_read cL_read 4 (some .int) [(0, 9, 12, 13)]) List.mem_cons_self)
  subst hsz
  have hl := lv_entry ([.ref h_, .int r, .ref h_out]) (n := 4) (Nat.le_of_ble_eq_true rfl)
  rw [lg_entry_eq]
  generalize (lg_sl ([.ref h_, .int r, .ref h_out]) ++ List.replicate (4 - (lg_sl ([.ref h_, .int r, .ref h_out])).length) Slot.unset).toArray = ls at hl ⊢
  replace hl : lv_has ls 4 [(0, .ref h_), (1, .int r), (2, .ref h_out)] := hl
  have hS : va_S (va_A [] s.heap.size) s.heap s.heap [] := va_S.rf
  have hcast := va_Nw.use (A := ([.ref h_, .int r, .ref h_out] : List Value).toArray) rfl hXT.2.2.2.1
  refine lv_aload_n hx hb dL_read_0 rfl (lv_at hl 2 rfl) ?_
  refine lv_iconst (v := 0) hx hb dL_read_1 (by decide) ?_
  refine lv_aload_n hx hb dL_read_2 rfl (lv_at hl 0 rfl) ?_
  refine lv_iload_n hx hb dL_read_3 rfl (lv_at hl 1 rfl) ?_
  refine vx_calli (vx_runV (As := [.int r]) (rest := [.int 0, .ref h_out]) ⟨hx, hb, hml, hown, hts⟩ (tX8_read hst h_ s.heap.size sa r hr0) (cwV 1 hts gL_read_X8_read rfl rfl rfl (by decide +kernel) ⟨Nat.le_of_ble_eq_true rfl, Nat.le_of_ble_eq_true rfl⟩) ⟨fun a U g mk q => by obtain ⟨q0, q1, q2⟩ := q; exact ⟨q0, q1, XT.same rfl rfl q2⟩, hRV, fun U hU hW => ⟨rfl, by rw [hU], XT.warm hW hU hS (fun q h => h) hXT⟩⟩ rfl rfl hl.1 rfl (lv_room (Nat.le_of_ble_eq_true rfl)) dL_read_4 ⟨Nat.le_of_ble_eq_true rfl, Nat.le_of_ble_eq_true rfl⟩) hS (fun q _ h => h) (fun q h => h) (fun q _ h => h) (fun E ce q9 u t H1 locs1 ht hvm hp hE hz hk hS hce hcv hcl => ?_) (fun r9 u t H1 locs1 ht hvm hp hb9 hz hk hS1 => hp.elim)
  obtain rfl : E = NSE := hE
  refine sp_catch hown ⟨0, 9, 12, 13⟩ htab (by decide) (by decide) (hts (.classLink RL 13 "java/util/NoSuchElementException") (by decide +kernel)) hcast hce hcv hcl ?_
  refine lv_astore_n (lv' := [(3, .ref q9), (0, .ref h_), (1, .int r), (2, .ref h_out)]) hx hb dL_read_12 rfl hl (Nat.le_of_ble_eq_true rfl) rfl (fun ls hl => ?_)
  refine lv_iconst (v := 1) hx hb dL_read_13 (by decide) ?_
  exact W.iret (v := 1) hx hb hr (fun t ht hW => ⟨⟨1, (), rfl, rfl, trivial⟩, hS.F ht⟩) hS.2.2 dL_read_14
