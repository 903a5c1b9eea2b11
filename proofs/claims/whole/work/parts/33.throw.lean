def wsL_write_r1 : List Cond := [Cond.classLink RL 13 "java/util/NoSuchElementException", Cond.methodLink RL 7 yX8_write, Cond.instanceMethod yX8_write, Cond.selects RX8 yX8_write yX8_write, Cond.initialized RX8, Cond.code yX8_write cX8_write 4 none, Cond.classLink RX8 66 "java/util/NoSuchElementException", Cond.initialized "java/util/NoSuchElementException", Cond.fieldLink RX8 73 "SerialPort" "lineControl" "I", Cond.fieldLink RX8 12 "SerialPort" "divider" "LSerialPort$Divider;", Cond.methodLink RX8 77 yX0_putByte, Cond.instanceMethod yX0_putByte, Cond.selects RX0 yX0_putByte yX0_putByte, Cond.initialized RX0, Cond.code yX0_putByte cX0_putByte 3 none, Cond.fieldLink RX0 9 "SerialPort$Divider" "divisor" "I", Cond.constant RX0 18 (65280), Cond.fieldLink RX0 15 "SerialPort$Divider" "passed" "I", Cond.methodLink RX8 81 yX8_putRegister, Cond.instanceMethod yX8_putRegister, Cond.selects RX8 yX8_putRegister yX8_putRegister, Cond.code yX8_putRegister cX8_putRegister 3 none, Cond.fieldLink RX8 45 "SerialPort" "modem" "LSerialPort$Modem;", Cond.fieldLink RX8 166 "SerialPort" "kept" "I"]
def wsL_write_r2 : List Cond := [Cond.methodLink RX8 188 yX8_putCharacter, Cond.instanceMethod yX8_putCharacter, Cond.selects RX8 yX8_putCharacter yX8_putCharacter, Cond.code yX8_putCharacter cX8_putCharacter 2 none, Cond.fieldLink RX8 25 "SerialPort" "sending" "LSerialPort$Ring;", Cond.fieldLink RX8 172 "SerialPort" "rowsOn" "Z", Cond.fieldLink RX8 179 "SerialPort" "emptyUp" "Z", Cond.methodLink RX8 124 yX5_size, Cond.instanceMethod yX5_size, Cond.selects RX5 yX5_size yX5_size, Cond.initialized RX5, Cond.code yX5_size cX5_size 1 (some .int), Cond.fieldLink RX5 23 "SerialPort$Ring" "size" "I", Cond.methodLink RX8 215 yX8_rowRoom, Cond.instanceMethod yX8_rowRoom, Cond.selects RX8 yX8_rowRoom yX8_rowRoom, Cond.code yX8_rowRoom cX8_rowRoom 1 (some .int), Cond.methodLink RX8 218 yX5_add, Cond.instanceMethod yX5_add, Cond.selects RX5 yX5_add yX5_add, Cond.code yX5_add cX5_add 2 none, Cond.fieldLink RX5 13 "SerialPort$Ring" "cells" "[I", Cond.methodLink RX5 33 yX5_setAt, Cond.instanceMethod yX5_setAt]
def wsL_write_r3 : List Cond := [Cond.selects RX5 yX5_setAt yX5_setAt, Cond.code yX5_setAt cX5_setAt 4 none, Cond.methodLink RX5 26 yX5_cellOf, Cond.instanceMethod yX5_cellOf, Cond.selects RX5 yX5_cellOf yX5_cellOf, Cond.code yX5_cellOf cX5_cellOf 3 (some .int), Cond.fieldLink RX5 19 "SerialPort$Ring" "head" "I", Cond.methodLink RX8 221 yX5_setFirst, Cond.instanceMethod yX5_setFirst, Cond.selects RX5 yX5_setFirst yX5_setFirst, Cond.code yX5_setFirst cX5_setFirst 2 none, Cond.methodLink RX8 191 yX8_putWanted, Cond.instanceMethod yX8_putWanted, Cond.selects RX8 yX8_putWanted yX8_putWanted, Cond.code yX8_putWanted cX8_putWanted 3 none, Cond.fieldLink RX8 163 "SerialPort" "wanted" "I", Cond.methodLink RX8 230 yX5_isEmpty, Cond.instanceMethod yX5_isEmpty, Cond.selects RX5 yX5_isEmpty yX5_isEmpty, Cond.code yX5_isEmpty cX5_isEmpty 1 (some .boolean), Cond.methodLink RX8 194 yX8_putRowControl, Cond.instanceMethod yX8_putRowControl, Cond.selects RX8 yX8_putRowControl yX8_putRowControl, Cond.code yX8_putRowControl cX8_putRowControl 4 none]
def wsL_write_r4 : List Cond := [Cond.fieldLink RX8 21 "SerialPort" "received" "LSerialPort$Ring;", Cond.fieldLink RX8 182 "SerialPort" "lateUp" "Z", Cond.fieldLink RX8 169 "SerialPort" "level" "I", Cond.methodLink RX8 157 yX5_clear, Cond.instanceMethod yX5_clear, Cond.selects RX5 yX5_clear yX5_clear, Cond.code yX5_clear cX5_clear 1 none, Cond.methodLink RX8 233 yX8_levelOf, Cond.static yX8_levelOf, Cond.code yX8_levelOf cX8_levelOf 1 (some .int), Cond.methodLink RX8 197 yX3_putOutputs, Cond.instanceMethod yX3_putOutputs, Cond.selects RX3 yX3_putOutputs yX3_putOutputs, Cond.initialized RX3, Cond.code yX3_putOutputs cX3_putOutputs 2 none, Cond.fieldLink RX3 7 "SerialPort$Modem" "outputs" "I", Cond.methodLink RX3 22 yX3_follow, Cond.instanceMethod yX3_follow, Cond.selects RX3 yX3_follow yX3_follow, Cond.code yX3_follow cX3_follow 3 none, Cond.fieldLink RX3 13 "SerialPort$Modem" "pins" "I", Cond.fieldLink RX3 16 "SerialPort$Modem" "state" "I", Cond.fieldLink RX3 19 "SerialPort$Modem" "changes" "I", Cond.methodLink RX3 25 yX3_loops]
def wsL_write_r5 : List Cond := [Cond.instanceMethod yX3_loops, Cond.selects RX3 yX3_loops yX3_loops, Cond.code yX3_loops cX3_loops 1 (some .boolean), Cond.methodLink RX3 29 yX3_looped, Cond.instanceMethod yX3_looped, Cond.selects RX3 yX3_looped yX3_looped, Cond.code yX3_looped cX3_looped 1 (some .int)]
def wsL_write : List Cond := .codeWith yL_write cL_write 4 (some .int) [(0, 6, 9, 13)] :: ((wsL_write_r1 ++ (wsL_write_r2 ++ (wsL_write_r3 ++ (wsL_write_r4 ++ wsL_write_r5)))) ++ wsX80 ++ wsX00 ++ wsX50 ++ wsX30 ++ (nx_at).filter goodWord)
def wsL_read_r1 : List Cond := [Cond.classLink RL 13 "java/util/NoSuchElementException", Cond.methodLink RL 15 yX8_read, Cond.instanceMethod yX8_read, Cond.selects RX8 yX8_read yX8_read, Cond.initialized RX8, Cond.code yX8_read cX8_read 2 (some .int), Cond.classLink RX8 66 "java/util/NoSuchElementException", Cond.initialized "java/util/NoSuchElementException", Cond.fieldLink RX8 73 "SerialPort" "lineControl" "I", Cond.fieldLink RX8 12 "SerialPort" "divider" "LSerialPort$Divider;", Cond.methodLink RX8 84 yX0_tellByte, Cond.instanceMethod yX0_tellByte, Cond.selects RX0 yX0_tellByte yX0_tellByte, Cond.initialized RX0, Cond.code yX0_tellByte cX0_tellByte 2 (some .int), Cond.fieldLink RX0 9 "SerialPort$Divider" "divisor" "I", Cond.methodLink RX8 88 yX8_tellRegister, Cond.instanceMethod yX8_tellRegister, Cond.selects RX8 yX8_tellRegister yX8_tellRegister, Cond.code yX8_tellRegister cX8_tellRegister 2 (some .int), Cond.fieldLink RX8 163 "SerialPort" "wanted" "I", Cond.fieldLink RX8 45 "SerialPort" "modem" "LSerialPort$Modem;", Cond.fieldLink RX8 166 "SerialPort" "kept" "I", Cond.methodLink RX8 200 yX8_takeCharacter]
def wsL_read_r2 : List Cond := [Cond.instanceMethod yX8_takeCharacter, Cond.selects RX8 yX8_takeCharacter yX8_takeCharacter, Cond.code yX8_takeCharacter cX8_takeCharacter 2 (some .int), Cond.fieldLink RX8 21 "SerialPort" "received" "LSerialPort$Ring;", Cond.fieldLink RX8 182 "SerialPort" "lateUp" "Z", Cond.fieldLink RX8 127 "SerialPort" "beats" "I", Cond.fieldLink RX8 185 "SerialPort" "quietSince" "I", Cond.methodLink RX8 224 yX5_first, Cond.instanceMethod yX5_first, Cond.selects RX5 yX5_first yX5_first, Cond.initialized RX5, Cond.code yX5_first cX5_first 1 (some .int), Cond.methodLink RX5 30 yX5_at, Cond.instanceMethod yX5_at, Cond.selects RX5 yX5_at yX5_at, Cond.code yX5_at cX5_at 3 (some .int), Cond.fieldLink RX5 23 "SerialPort$Ring" "size" "I", Cond.fieldLink RX5 13 "SerialPort$Ring" "cells" "[I", Cond.methodLink RX5 26 yX5_cellOf, Cond.instanceMethod yX5_cellOf, Cond.selects RX5 yX5_cellOf yX5_cellOf, Cond.code yX5_cellOf cX5_cellOf 3 (some .int), Cond.fieldLink RX5 19 "SerialPort$Ring" "head" "I", Cond.methodLink RX8 227 yX5_dropFirst]
def wsL_read_r3 : List Cond := [Cond.instanceMethod yX5_dropFirst, Cond.selects RX5 yX5_dropFirst yX5_dropFirst, Cond.code yX5_dropFirst cX5_dropFirst 1 none, Cond.methodLink RX8 203 yX8_tellReason, Cond.instanceMethod yX8_tellReason, Cond.selects RX8 yX8_tellReason yX8_tellReason, Cond.code yX8_tellReason cX8_tellReason 2 (some .int), Cond.fieldLink RX8 179 "SerialPort" "emptyUp" "Z", Cond.fieldLink RX8 172 "SerialPort" "rowsOn" "Z", Cond.methodLink RX8 130 yX8_reason, Cond.instanceMethod yX8_reason, Cond.selects RX8 yX8_reason yX8_reason, Cond.code yX8_reason cX8_reason 1 (some .int), Cond.fieldLink RX8 176 "SerialPort" "overrun" "Z", Cond.fieldLink RX8 169 "SerialPort" "level" "I", Cond.methodLink RX8 245 yX8_wants, Cond.instanceMethod yX8_wants, Cond.selects RX8 yX8_wants yX8_wants, Cond.code yX8_wants cX8_wants 2 (some .boolean), Cond.methodLink RX8 239 yX8_firstFaults, Cond.instanceMethod yX8_firstFaults, Cond.selects RX8 yX8_firstFaults yX8_firstFaults, Cond.code yX8_firstFaults cX8_firstFaults 1 (some .int), Cond.methodLink RX8 124 yX5_size]
def wsL_read_r4 : List Cond := [Cond.instanceMethod yX5_size, Cond.selects RX5 yX5_size yX5_size, Cond.code yX5_size cX5_size 1 (some .int), Cond.methodLink RX8 248 yX3_hasChanged, Cond.instanceMethod yX3_hasChanged, Cond.selects RX3 yX3_hasChanged yX3_hasChanged, Cond.initialized RX3, Cond.code yX3_hasChanged cX3_hasChanged 1 (some .boolean), Cond.fieldLink RX3 19 "SerialPort$Modem" "changes" "I", Cond.methodLink RX8 206 yX3_outputs, Cond.instanceMethod yX3_outputs, Cond.selects RX3 yX3_outputs yX3_outputs, Cond.code yX3_outputs cX3_outputs 1 (some .int), Cond.fieldLink RX3 7 "SerialPort$Modem" "outputs" "I", Cond.methodLink RX8 209 yX8_tellLineState, Cond.instanceMethod yX8_tellLineState, Cond.selects RX8 yX8_tellLineState yX8_tellLineState, Cond.code yX8_tellLineState cX8_tellLineState 2 (some .int), Cond.fieldLink RX8 25 "SerialPort" "sending" "LSerialPort$Ring;", Cond.fieldLink RX8 31 "SerialPort" "sender" "LSerialPort$Sender;", Cond.methodLink RX8 230 yX5_isEmpty, Cond.instanceMethod yX5_isEmpty, Cond.selects RX5 yX5_isEmpty yX5_isEmpty, Cond.code yX5_isEmpty cX5_isEmpty 1 (some .boolean)]
def wsL_read_r5 : List Cond := [Cond.methodLink RX8 140 yX6_isBusy, Cond.instanceMethod yX6_isBusy, Cond.selects RX6 yX6_isBusy yX6_isBusy, Cond.initialized RX6, Cond.code yX6_isBusy cX6_isBusy 1 (some .boolean), Cond.fieldLink RX6 21 "SerialPort$Sender" "busy" "Z", Cond.methodLink RX8 242 yX8_someFault, Cond.instanceMethod yX8_someFault, Cond.selects RX8 yX8_someFault yX8_someFault, Cond.code yX8_someFault cX8_someFault 2 (some .boolean), Cond.methodLink RX8 236 yX5_at, Cond.methodLink RX8 221 yX5_setFirst, Cond.instanceMethod yX5_setFirst, Cond.selects RX5 yX5_setFirst yX5_setFirst, Cond.code yX5_setFirst cX5_setFirst 2 none, Cond.methodLink RX5 33 yX5_setAt, Cond.instanceMethod yX5_setAt, Cond.selects RX5 yX5_setAt yX5_setAt, Cond.code yX5_setAt cX5_setAt 4 none, Cond.methodLink RX8 212 yX3_tellState, Cond.instanceMethod yX3_tellState, Cond.selects RX3 yX3_tellState yX3_tellState, Cond.code yX3_tellState cX3_tellState 2 (some .int), Cond.fieldLink RX3 16 "SerialPort$Modem" "state" "I"]
def wsL_read : List Cond := .codeWith yL_read cL_read 4 (some .int) [(0, 9, 12, 13)] :: ((wsL_read_r1 ++ (wsL_read_r2 ++ (wsL_read_r3 ++ (wsL_read_r4 ++ wsL_read_r5)))) ++ wsX80 ++ wsX00 ++ wsX50 ++ wsX30 ++ wsX60 ++ (nx_at).filter goodWord)
theorem dL_write_0 : decode cL_write 0 = .ok (.aload_n 0, 1) := by decide +kernel
theorem dL_write_1 : decode cL_write 1 = .ok (.iload_n 1, 1) := by decide +kernel
theorem dL_write_2 : decode cL_write 2 = .ok (.iload_n 2, 1) := by decide +kernel
theorem dL_write_3 : decode cL_write 3 = .ok (.invokevirtual 7, 3) := by decide +kernel
theorem dL_write_6 : decode cL_write 6 = .ok (.goto 6, 3) := by decide +kernel
theorem dL_write_9 : decode cL_write 9 = .ok (.astore_n 3, 1) := by decide +kernel
theorem dL_write_10 : decode cL_write 10 = .ok (.iconst 1, 1) := by decide +kernel
theorem dL_write_11 : decode cL_write 11 = .ok (.ireturn, 1) := by decide +kernel
theorem dL_write_12 : decode cL_write 12 = .ok (.iconst 0, 1) := by decide +kernel
theorem dL_write_13 : decode cL_write 13 = .ok (.ireturn, 1) := by decide +kernel
set_option maxRecDepth 20000 in
theorem ggL_write_X8_write : GoodIn wsL_write wsX8_write := goodIn_ca (goodIn_r _ [6, 7, 8, 9, 10, 11, 12, 13, 14, 15, 16, 17, 18, 19, 20, 21, 5, 22, 23, 24, 25, 26, 27, 28, 29, 30, 31, 32, 33, 34, 35, 36, 37, 38, 39, 40, 41, 42, 43, 44, 45, 46, 47, 48, 49, 50, 51, 52, 53, 54, 55, 56, 57, 58, 59, 60, 61, 62, 63, 64, 65, 66, 67, 68, 69, 70, 71, 72, 73, 74, 75, 76, 77, 78, 79, 80, 81, 82, 83, 84, 85, 86, 87, 88, 89, 90, 91, 92, 93, 94, 95, 96, 97, 98, 99, 100, 101, 102, 103, 104, 105, 106, 107, 108, 109, 110, 111, 112, 113, 114, 115, 116, 117, 118, 119, 120, 121, 122, 123, 124, 125, 126, 127, 128, 129, 130] (by decide +kernel) (by decide +kernel)) (goodIn_sub (fun _ h => List.mem_cons_of_mem _ (List.mem_append_right _ h)) (by decide +kernel))
set_option maxRecDepth 20000 in
theorem gL_write_X8_write : GoodIn wsL_write (wsV RL 7 RX8 yX8_write wsX8_write) := goodIn_app (goodIn_of _ (by decide +kernel)) ggL_write_X8_write
theorem dL_read_0 : decode cL_read 0 = .ok (.aload_n 2, 1) := by decide +kernel
theorem dL_read_1 : decode cL_read 1 = .ok (.iconst 0, 1) := by decide +kernel
theorem dL_read_2 : decode cL_read 2 = .ok (.aload_n 0, 1) := by decide +kernel
theorem dL_read_3 : decode cL_read 3 = .ok (.iload_n 1, 1) := by decide +kernel
theorem dL_read_4 : decode cL_read 4 = .ok (.invokevirtual 15, 3) := by decide +kernel
theorem dL_read_7 : decode cL_read 7 = .ok (.i2l, 1) := by decide +kernel
theorem dL_read_8 : decode cL_read 8 = .ok (.lastore, 1) := by decide +kernel
theorem dL_read_9 : decode cL_read 9 = .ok (.goto 6, 3) := by decide +kernel
theorem dL_read_12 : decode cL_read 12 = .ok (.astore_n 3, 1) := by decide +kernel
theorem dL_read_13 : decode cL_read 13 = .ok (.iconst 1, 1) := by decide +kernel
theorem dL_read_14 : decode cL_read 14 = .ok (.ireturn, 1) := by decide +kernel
theorem dL_read_15 : decode cL_read 15 = .ok (.iconst 0, 1) := by decide +kernel
theorem dL_read_16 : decode cL_read 16 = .ok (.ireturn, 1) := by decide +kernel
set_option maxRecDepth 20000 in
theorem ggL_read_X8_read : GoodIn wsL_read wsX8_read := goodIn_ca (goodIn_r _ [6, 7, 8, 9, 10, 11, 12, 13, 14, 15, 16, 17, 18, 19, 5, 20, 21, 22, 23, 24, 25, 26, 27, 28, 29, 30, 31, 32, 33, 34, 35, 36, 37, 38, 39, 40, 41, 42, 43, 44, 45, 46, 47, 48, 49, 50, 51, 52, 53, 54, 55, 56, 57, 58, 59, 60, 61, 62, 63, 64, 65, 66, 67, 68, 69, 70, 71, 72, 73, 74, 75, 76, 77, 78, 79, 80, 81, 82, 83, 84, 85, 86, 87, 88, 89, 90, 91, 92, 93, 94, 95, 96, 97, 98, 99, 100, 101, 102, 103, 104, 105, 106, 107, 108, 109, 110, 111, 112, 113, 114, 115, 116, 117, 118, 119, 120, 121, 122, 123, 124, 125, 126, 127, 128, 129, 130, 131, 132, 133, 134, 135, 136, 137, 138, 139, 140, 141, 142, 143, 144, 145, 146, 147, 148, 149, 150, 151] (by decide +kernel) (by decide +kernel)) (goodIn_sub (fun _ h => List.mem_cons_of_mem _ (List.mem_append_right _ h)) (by decide +kernel))
set_option maxRecDepth 20000 in
theorem gL_read_X8_read : GoodIn wsL_read (wsV RL 15 RX8 yX8_read wsX8_read) := goodIn_app (goodIn_of _ (by decide +kernel)) ggL_read_X8_read
/-! A register that is none such: the throw, and the law's own methods that catch it. -/
def NSE : String := "java/util/NoSuchElementException"
def XT (sa : Nat) (A : Nat → Prop) (U : State) : Prop := vk_R RX8 68 "there is no such register" sa U ∧ vx_Zq Bundle.tN "UNASSIGNED_STACK" Bundle.steD A U U.heap ∧ vx_Zq Bundle.tN "SUPPRESSED_SENTINEL" Bundle.listD A U U.heap ∧ va_Nw (.castable NSE NSE) U ∧ va_Nw (.declares (Bundle.initS "java/lang/RuntimeException")) U ∧ va_Nw (.declares (Bundle.initS "java/lang/Exception")) U ∧ va_Nw (.declares (Bundle.initS Bundle.tN)) U
theorem XT.same {sa : Nat} {A : Nat → Prop} {u U : State} (hv : U.vm = u.vm) (hh : U.heap = u.heap) (h : XT sa A u) : XT sa A U := by
  obtain ⟨h1, h2, h3, h4, h5, h6, h7⟩ := h
  have hal : u.vm.Alike U.vm := by rw [hv]; exact Vm.Alike.refl _
  exact ⟨vk_R.same hv h1, by rw [hh]; exact vx_Zq.moved hal h2, by rw [hh]; exact vx_Zq.moved hal h3, va_Nw.same rfl hv.symm h4, va_Nw.same rfl hv.symm h5, va_Nw.same rfl hv.symm h6, va_Nw.same rfl hv.symm h7⟩
/-- what a caller has to give: its own, the cells of A untouched -/
theorem XT.warm {sa : Nat} {A B : Nat → Prop} {s U : State} {H : Heap} {locs : List Loc} (hW : s.WarmedH U.vm) (hh : U.heap = H) (hS : va_S A s.heap H locs) (hAB : ∀ q, B q → A q) (h : XT sa A s) : XT sa B U := by
  obtain ⟨h1, h2, h3, h4, h5, h6, h7⟩ := h
  exact ⟨vk_R.warm hW h1, by rw [hh]; exact (vx_Zq.moved hW.alike (h2.kept hS.2.1)).narrow hAB, by rw [hh]; exact (vx_Zq.moved hW.alike (h3.kept hS.2.1)).narrow hAB, va_Nw.warmC hW h4, va_Nw.warmD hW h5, va_Nw.warmD hW h6, va_Nw.warmD hW h7⟩
theorem x_ng : ∀ w ∈ nx_at.filter (fun w => !goodWord w), w ∈ [Cond.castable NSE NSE, Cond.declares (Bundle.initS "java/lang/RuntimeException"), Cond.declares (Bundle.initS "java/lang/Exception"), Cond.declares (Bundle.initS Bundle.tN)] := by decide +kernel
theorem x_ot : ∀ w ∈ Cond.classLink RX8 66 NSE :: Cond.initialized NSE :: nx_at, vx_ot w = true := by decide +kernel
def RV (b : Nat) (U : State) : Prop := ∃ cell : Cell, U.heap[b]? = some cell ∧ cell.vm.isStatics = false ∧ U.vm.findClass RX8 = some cell.cls
set_option maxHeartbeats 4000000 in
set_option maxRecDepth 100000 in
theorem tX8_write {l : Launch} (hst : l.stackTraces = false) (h_ sz sa : Nat) (r v : Int32) (hr : r < 0 ∨ ¬ r ≤ 7) : vx_Met l yX8_write wsX8_write { frames := 6, cells := 1, slots := 6, locals := 90 } (va_Pc [.ref h_, .int r, .int v] (fun U => U.heap.size = sz ∧ XT sa (va_A [] sz) U)) (va_Qv (fun _ : Unit => False) (fun _ _ => True) (va_A [] sz)) (vx_X (fun _ : Unit => True) (fun E _ _ => E = NSE) (va_A [] sz)) 1 6 (va_A [] sz) := by
  refine vx_ofW (cc := cX8_write) (maxL := 4) (ret := none) (by decide +kernel) rfl ?_
  intro p e s m args below meth c s₁ B hml htab hv
  obtain ⟨rfl, hsz, hR, hU, hN, hC, hC1, hC2, hC3⟩ := hv
  have hx := B.exec
  have hb := B.bytes
  have hts := atoms_spec (ws := wsX8_write) B.pre
  have hown : s.vm.findClass RX8 = some m.cls := findClass_of_methodNamed B.named
  have hlocks := B.notSynchronized
  subst hsz
  have hl := lv_entry ([.ref h_, .int r, .int v]) (n := 4) (Nat.le_of_ble_eq_true rfl)
  rw [lg_entry_eq]
  generalize (lg_sl ([.ref h_, .int r, .int v]) ++ List.replicate (4 - (lg_sl ([.ref h_, .int r, .int v])).length) Slot.unset).toArray = ls at hl ⊢
  replace hl : lv_has ls 4 [(0, .ref h_), (1, .int r), (2, .int v)] := hl
  have hgw : ∀ w ∈ nx_at.filter goodWord, w.before ([.ref h_, .int r, .int v] : List Value).toArray s = true := fun w h => hts w (List.mem_cons_of_mem _ (List.mem_append_right _ h))
  have hat := vx_hat (L := nx_at) hgw x_ng (vx_c (va_Nw.use (A := ([.ref h_, .int r, .int v] : List Value).toArray) rfl hC) (vx_c (va_Nw.use rfl hC1) (vx_c (va_Nw.use rfl hC2) (vx_c (va_Nw.use rfl hC3) vx_n))))
  have hk := hts (.classLink RX8 66 "java/util/NoSuchElementException") (by decide +kernel)
  have hini := hts (.initialized "java/util/NoSuchElementException") (by decide +kernel)
  have T := fun (Q : Array Value → State → Outcome → State → Prop) => nx_throw (p := p) (l := l) (e := e) (R := { frames := 6, cells := 1, slots := 6, locals := 90 }) (s := s) (m := m) (below := below) (meth := meth) (c := c) (H := s.heap) (locs := []) (cells := 0) (slots := 0) (rest := []) (ls := ls) (pc := 10) (mc := 1) (ms := 6) (free := va_A [] s.heap.size) (Qc := Q) (XC := vx_X (fun _ : Unit => True) (fun E _ _ => E = NSE) (va_A [] s.heap.size)) hx hb hst hown hk hini hR hat x_ot hU hN va_S.rf (by rw [hml]; exact hl.1) dX8_write_10 dX8_write_13 dX8_write_14 dX8_write_16 dX8_write_19 (fun x h => (htab x h).elim) (Nat.le_of_ble_eq_true rfl) (Nat.le_of_ble_eq_true rfl) (Nat.le_of_ble_eq_true rfl) (Nat.le_of_ble_eq_true rfl) hlocks (fun t h1 h2 h3 => ⟨(), trivial, rfl, h2, fun q hq _ => h3 q hq⟩) (fun z hz => nomatch hz) (Nat.le_refl _) (Nat.le_refl _)
  refine lv_iload_n hx hb dX8_write_0 rfl (lv_at hl 1 rfl) ?_
  refine lv_if_lt (tgt := 10) hx hb dX8_write_1 (by decide) (fun c1 => ?_) (fun c1 => ?_)
  · exact T _
  · refine lv_iload_n hx hb dX8_write_4 rfl (lv_at hl 1 rfl) ?_
    refine lv_bipush (v := 7) hx hb dX8_write_5 (by decide) ?_
    refine lv_icmp_le (tgt := 20) hx hb dX8_write_7 (by decide) (fun c2 => ?_) (fun c2 => ?_)
    · exact absurd c2 (hr.resolve_left c1)
    · exact T _
set_option maxHeartbeats 4000000 in
set_option maxRecDepth 100000 in
theorem tX8_read {l : Launch} (hst : l.stackTraces = false) (h_ sz sa : Nat) (r : Int32) (hr : r < 0 ∨ ¬ r ≤ 7) : vx_Met l yX8_read wsX8_read { frames := 6, cells := 1, slots := 6, locals := 90 } (va_Pc [.ref h_, .int r] (fun U => U.heap.size = sz ∧ XT sa (va_A [] sz) U)) (va_Qi (fun _ (_ : Unit) => False) (fun _ _ => True) (va_A [] sz)) (vx_X (fun _ : Unit => True) (fun E _ _ => E = NSE) (va_A [] sz)) 1 6 (va_A [] sz) := by
  refine vx_ofW (cc := cX8_read) (maxL := 2) (ret := (some .int)) (by decide +kernel) rfl ?_
  intro p e s m args below meth c s₁ B hml htab hv
  obtain ⟨rfl, hsz, hR, hU, hN, hC, hC1, hC2, hC3⟩ := hv
  have hx := B.exec
  have hb := B.bytes
  have hts := atoms_spec (ws := wsX8_read) B.pre
  have hown : s.vm.findClass RX8 = some m.cls := findClass_of_methodNamed B.named
  have hlocks := B.notSynchronized
  subst hsz
  have hl := lv_entry ([.ref h_, .int r]) (n := 2) (Nat.le_of_ble_eq_true rfl)
  rw [lg_entry_eq]
  generalize (lg_sl ([.ref h_, .int r]) ++ List.replicate (2 - (lg_sl ([.ref h_, .int r])).length) Slot.unset).toArray = ls at hl ⊢
  replace hl : lv_has ls 2 [(0, .ref h_), (1, .int r)] := hl
  have hgw : ∀ w ∈ nx_at.filter goodWord, w.before ([.ref h_, .int r] : List Value).toArray s = true := fun w h => hts w (List.mem_cons_of_mem _ (List.mem_append_right _ h))
  have hat := vx_hat (L := nx_at) hgw x_ng (vx_c (va_Nw.use (A := ([.ref h_, .int r] : List Value).toArray) rfl hC) (vx_c (va_Nw.use rfl hC1) (vx_c (va_Nw.use rfl hC2) (vx_c (va_Nw.use rfl hC3) vx_n))))
  have hk := hts (.classLink RX8 66 "java/util/NoSuchElementException") (by decide +kernel)
  have hini := hts (.initialized "java/util/NoSuchElementException") (by decide +kernel)
  have T := fun (Q : Array Value → State → Outcome → State → Prop) => nx_throw (p := p) (l := l) (e := e) (R := { frames := 6, cells := 1, slots := 6, locals := 90 }) (s := s) (m := m) (below := below) (meth := meth) (c := c) (H := s.heap) (locs := []) (cells := 0) (slots := 0) (rest := []) (ls := ls) (pc := 10) (mc := 1) (ms := 6) (free := va_A [] s.heap.size) (Qc := Q) (XC := vx_X (fun _ : Unit => True) (fun E _ _ => E = NSE) (va_A [] s.heap.size)) hx hb hst hown hk hini hR hat x_ot hU hN va_S.rf (by rw [hml]; exact hl.1) dX8_read_10 dX8_read_13 dX8_read_14 dX8_read_16 dX8_read_19 (fun x h => (htab x h).elim) (Nat.le_of_ble_eq_true rfl) (Nat.le_of_ble_eq_true rfl) (Nat.le_of_ble_eq_true rfl) (Nat.le_of_ble_eq_true rfl) hlocks (fun t h1 h2 h3 => ⟨(), trivial, rfl, h2, fun q hq _ => h3 q hq⟩) (fun z hz => nomatch hz) (Nat.le_refl _) (Nat.le_refl _)
  refine lv_iload_n hx hb dX8_read_0 rfl (lv_at hl 1 rfl) ?_
  refine lv_if_lt (tgt := 10) hx hb dX8_read_1 (by decide) (fun c1 => ?_) (fun c1 => ?_)
  · exact T _
  · refine lv_iload_n hx hb dX8_read_4 rfl (lv_at hl 1 rfl) ?_
    refine lv_bipush (v := 7) hx hb dX8_read_5 (by decide) ?_
    refine lv_icmp_le (tgt := 20) hx hb dX8_read_7 (by decide) (fun c2 => ?_) (fun c2 => ?_)
    · exact absurd c2 (hr.resolve_left c1)
    · exact T _
