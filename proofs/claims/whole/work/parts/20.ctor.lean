/-! Constructors: their contracts' form, and the rows for them. -/
def MC {α : Type} (l : Launch) (y : MethodName) (w : List Cond) (rm : Room) (D : va_G) (av : List Value) (ws : va_W) (wf : α → va_W) (tf : α → List (ClassId × FieldType)) (mc ms : Nat) : Prop :=
  ∀ sz : Nat, Met l y w rm (va_Pc av (cPre D [] ws sz)) (va_Qv (fun _ : α => True) (fun u t => va_P D vwCl (wf u) t.heap ∧ va_K D vwCl (tf u) t ∧ va_D (va_A ws sz) (wf u)) (va_A ws sz)) mc ms (va_A ws sz)
def QC {α : Type} (below : List Frame) (D : va_G) (wf : α → va_W) (tf : α → List (ClassId × FieldType)) (mc ms : Nat) (args : Array Value) (s : State) (A : Nat → Prop) : State → Prop :=
  MQ below (va_Qv (fun _ : α => True) (fun u t => va_P D vwCl (wf u) t.heap ∧ va_K D vwCl (tf u) t ∧ va_D A (wf u)) A) args s mc ms A
theorem MC.ofW {α : Type} {l : Launch} {y : MethodName} {w w' : List Cond} {rm : Room} {D : va_G} {av : List Value} {ws : va_W} {wf : α → va_W} {tf : α → List (ClassId × FieldType)} {mc ms : Nat} {cc : ByteArray} {maxL : Nat} {ret : Option FieldType} {lv : List (Nat × Value)}
    (hy : plainName y.cls = true) (hw : w = Cond.code y cc maxL ret :: w') (hav : (lg_sl av).length ≤ maxL) (hlv : lv_args 0 av = lv)
    (body : ∀ (p : Program) (e : Env) (s : State) (m : MethodId) (args : Array Value) (below : List Frame) (meth : Method) (c : Code) (A : Nat → Prop) (ls : Array Slot), p.tables.exec = Jvm.exec → c.code = cc → meth.sig.returnType = ret → c.maxLocals = maxL → (∀ q ∈ w, q.before args s = true) → s.vm.findClass y.cls = some m.cls → meth.locks = false → meth.name = y.name → (∀ q : Nat, s.heap.size ≤ q → A q) → va_K D vwCl [] s → va_P D vwCl ws s.heap → va_D A ws → va_S A s.heap s.heap [] → lv_has ls maxL lv → W p l e rm s m args below meth c s.heap [] 0 0 (QC below D wf tf mc ms args s A) (F0 m 0 ls [])) : MC l y w rm D av ws wf tf mc ms := by
  intro sz
  refine Met.ofW (cc := cc) (maxL := maxL) (ret := ret) hy hw ?_
  intro p e s m args below meth c s₁ B hml hv
  obtain ⟨rfl, hsz, hP, hK, hD0⟩ := hv
  have hts := atoms_spec (ws := w) B.pre
  have hown : s.vm.findClass y.cls = some m.cls := findClass_of_methodNamed B.named
  subst hsz
  have hl := lv_entry av (n := maxL) hav
  rw [lg_entry_eq]
  rw [hlv] at hl
  exact body p e s m av.toArray below meth c (va_A ws s.heap.size) _ B.exec B.bytes B.returns hml hts hown B.notSynchronized (name_of_methodNamed B.named B.method).1 (fun q h => Or.inr h) hK hP (hD0.self (sz := s.heap.size)) va_S.rf hl
theorem cb_int {N : Nat} (h : N ≤ 500) : N * componentBytes .int ≤ 536870912 := by
  have e : componentBytes .int = 4 := rfl
  rw [e]
  omega
theorem cb_bool {N : Nat} (h : N ≤ 500) : N * componentBytes .boolean ≤ 536870912 := by
  have e : componentBytes .boolean = 1 := rfl
  rw [e]
  omega
theorem a0_int (cA : ClassId) (N : Nat) : vp_cell cA (N, .inl (fun _ => 0)) = arrV cA N (fun _ => defaultValue .int) := by
  rw [vp_cell_i]
  have e : defaultValue .int = .int 0 := rfl
  rw [e]
theorem a0_bool (cA : ClassId) (N : Nat) : vp_cell cA (N, .inl (bF (fun _ => false))) = arrV cA N (fun _ => defaultValue .boolean) := by
  rw [vp_cell_i]
  have e : defaultValue .boolean = .int 0 := rfl
  have e2 : (fun j => Value.int (bF (fun _ => false) j)) = fun _ => Value.int 0 := rfl
  rw [e, e2]
section RowsC
variable {p : Program} {l : Launch} {e : Env} {R : Room} {s : State} {m : MethodId} {args : Array Value} {below : List Frame} {meth : Method} {c : Code} {H H0 : Heap} {locs : List Loc} {cells slots : Nat} {Q : State → Prop} {cc : ByteArray} {pc : Nat} {ls : Array Slot} {rest : List Value} {A : Nat → Prop} {D : va_G} {tys : List (ClassId × FieldType)} {ws ws' : va_W}
theorem rC {α : Type} {wf : α → va_W} {tf : α → List (ClassId × FieldType)} {mc ms : Nat} (u : α) (hx : p.tables.exec = Jvm.exec) (hb : c.code = cc) (hr : meth.sig.returnType = none) (hlocks : meth.locks = false) (hK : va_K D vwCl (tf u) s) (hP : va_P D vwCl (wf u) H) (hD : va_D A (wf u)) (hS : va_S A s.heap H locs) (hdg : decode cc pc = .ok (.return_, 1)) :
    W p l e R s m args below meth c H locs mc ms (QC below D wf tf mc ms args s A) (F0 m pc ls []) :=
  W.vret hx hb hr (fun t ht hW => ⟨⟨u, rfl, trivial, by rw [ht]; exact hP, va_K.moved hW.alike hK, hD⟩, hS.F ht⟩) hS.2.2 hdg
/-- a final field written in a constructor -/
theorem pfF {own ref C : String} {T : u_T} {N ci index a : Nat} {Ts : List Cond} {ty0 : Nat → FieldType} (hx : p.tables.exec = Jvm.exec) (hb : c.code = cc) (hts : ∀ w ∈ Ts, w.before args s = true) (hin : ∀ w ∈ u_ws C T N, w ∈ Ts) (hty : ∀ k, k < N → parseFieldDescriptor (T k).2.2.1 = some (ty0 k)) (hnm : ∀ a, a < N → ∀ b, b < N → a ≠ b → (T a).2.1 ≠ (T b).2.1) (hown : s.vm.findClass own = some m.cls) (hK : va_K D vwCl tys s) (hP : va_P D vwCl ws H) (hD : va_D A ws) (hS : va_S A H0 H locs) (q0 : Nat) {fs : List Value} (he : ws[q0]? = some (a, .inr (ci, fs))) (hc : vwCl[ci]? = some (C, T, N)) (k : Nat) (hk : k < N) (hlink : (Cond.fieldLink own index ref (T k).2.1 (T k).2.2.1).before args s = true) (hsame : (T k).1 = ref) (hfin : (T k).2.2.2 = true) (hin2 : meth.name = "<init>") (hdecl : (T k).1 = own) {ty : FieldType} {v : Value} (hd : parseFieldDescriptor (T k).2.2.1 = some ty) (hn : narrow ty v = v) (hfit : fits ty v = true) (hl : k < fs.length) (hset : ws.set q0 (a, .inr (ci, fs.set k v)) = ws')
    (hdg : decode cc pc = .ok (.putfield index, 3)) (kk : ∀ (H1 : Heap) (locs1 : List Loc), va_P D vwCl ws' H1 → va_D A ws' → va_S A H0 H1 locs1 → W p l e R s m args below meth c H1 locs1 cells slots Q (F0 m (pc + 3) ls rest)) : W p l e R s m args below meth c H locs cells slots Q (F0 m pc ls (v :: .ref a :: rest)) := by
  subst hset
  exact va_putF hx hb hts hin ty0 hty hnm hown hK hP hD hS q0 he hc k hk hlink (fun x h => by rw [← hsame]; exact h) hfin hin2 hdecl hd hn hfit hl hdg kk
theorem cN_core {α : Type} {wf : α → va_W} {tf : α → List (ClassId × FieldType)} {mc ms : Nat} {st0 : List Value} {wc wr : va_W} {a : Array Value} (hr : va_Run p l e R s m args below meth c H locs cells slots mc ms (F0 m pc ls st0) rest (va_Qv (fun _ : α => True) (fun u t => va_P D vwCl (wf u) t.heap ∧ va_K D vwCl (tf u) t ∧ va_D (va_A wc H.size) (wf u)) (va_A wc H.size) a) (va_A wc H.size))
    (hK : va_K D vwCl tys s) (hP : va_P D vwCl ws H) (hD : va_D A ws) (hS : va_S A H0 H locs) (hA : ∀ q, H0.size ≤ q → A q) (isC isR : List Nat) (hCs : isC.map (fun i => ws[i]?) = wc.map some) (hR : isR.map (fun i => ws[i]?) = wr.map some) (hnn : (va_nd isR && va_nd isC && isR.all (fun i => !(isC.contains i))) = true)
    (kk : ∀ (u : α) (H1 : Heap) (locs1 : List Loc), va_K D vwCl (tys ++ tf u) s → va_P D vwCl (wr ++ wf u) H1 → va_D A (wr ++ wf u) → va_S A H0 H1 locs1 → W p l e R s m args below meth c H1 locs1 (cells + mc) (slots + ms) Q (F0 m (pc + 3) ls rest)) : W p l e R s m args below meth c H locs cells slots Q (F0 m pc ls st0) := by
  simp only [Bool.and_eq_true, List.all_eq_true] at hnn
  obtain ⟨⟨hn1, hn2⟩, hdis0⟩ := hnn
  have hdis : ∀ i ∈ isR, i ∉ isC := fun i hi hc => by
    have h := hdis0 i hi
    rw [List.contains_iff_mem.mpr hc] at h
    cases h
  have hFc := va_free (wc := wc) hD hS hA isC hCs
  refine va_callv hr hS (fun q _ h => hFc q h) hFc (fun u t H1 locs1 ht hvm hw hB hz1 hk1 hS1 => ?_)
  obtain ⟨hP1, hK1, hD1⟩ := hB
  rw [ht] at hP1
  obtain ⟨hP2, hD2⟩ := va_join (wr := wr) (w1 := wf u) hP hD isC isR hCs hR hn1 hdis hk1 hFc hP1 hD1
  exact kk u H1 locs1 (hK.app (va_K.moved hvm.symm hK1)) hP2 hD2 hS1
/-- 'invokespecial' of a constructor -/
theorem cNI {α : Type} {wf : α → va_W} {tf : α → List (ClassId × FieldType)} {mc ms : Nat} {Ts w : List Cond} {nL index maxL n b : Nat} {own : String} {y : MethodName} {bytes : ByteArray} {rm : Room} {As st0 : List Value} {wc wr : va_W} (S : CallFix p m c cc nL s args Ts own) (hM : MC l y w rm D (.ref b :: As) wc wf tf mc ms) (cw : CallB R s args own index y bytes maxL none w rm mc ms n ∧ y.name = "<init>" ∧ (Cond.instanceMethod y).before args s = true)
    (hK : va_K D vwCl tys s) (hP : va_P D vwCl ws H) (hD : va_D A ws) (hS : va_S A H0 H locs) (hA : ∀ q, H0.size ≤ q → A q) (isC isR : List Nat) (hCs : isC.map (fun i => ws[i]?) = wc.map some) (hR : isR.map (fun i => ws[i]?) = wr.map some) (hnn : (va_nd isR && va_nd isC && isR.all (fun i => !(isC.contains i))) = true)
    (hn : As.length = n) (hsize : ls.size = nL) (hstack : st0 = As.reverse ++ .ref b :: rest) (hrm : (rest.map fun v => v.category).sum ≤ 8) (hdg : decode cc pc = .ok (.invokespecial index, 3)) (hcl : cells + mc ≤ R.cells ∧ slots + ms ≤ R.slots)
    (kk : ∀ (u : α) (H1 : Heap) (locs1 : List Loc), va_K D vwCl (tys ++ tf u) s → va_P D vwCl (wr ++ wf u) H1 → va_D A (wr ++ wf u) → va_S A H0 H1 locs1 → W p l e R s m args below meth c H1 locs1 (cells + mc) (slots + ms) Q (F0 m (pc + 3) ls rest)) : W p l e R s m args below meth c H locs cells slots Q (F0 m pc ls st0) := by
  have hPc := hP.sub (ws' := wc) isC (fm_of hCs)
  have hDc : va_D A wc := hD.sub (ws' := wc) isC (by
    simp only [Bool.and_eq_true] at hnn
    exact hnn.1.2) hCs
  have hKc := hK.sub (tys' := []) [] rfl
  have hpre : ∀ U : State, U.heap = H → s.WarmedH U.vm → va_Pc (.ref b :: As) (cPre D [] wc H.size) (Value.ref b :: As).toArray U := fun U hU hW => ⟨rfl, by rw [hU], by rw [hU]; exact hPc, va_K.moved hW.alike hKc, hDc.weaken (fun _ _ _ _ => trivial)⟩
  exact cN_core (va_runI (As := As) (rest := rest) S (hM H.size) cw ⟨c_blind, hpre⟩ rfl hn hsize hstack (lv_room hrm) hdg hcl) hK hP hD hS hA isC isR hCs hR hnn kk
/-- the same, a nest mate's -/
theorem cNN {α : Type} {wf : α → va_W} {tf : α → List (ClassId × FieldType)} {mc ms : Nat} {Ts w : List Cond} {nL index maxL n b : Nat} {own host : String} {y : MethodName} {bytes : ByteArray} {rm : Room} {As st0 : List Value} {wc wr : va_W} (S : CallFix p m c cc nL s args Ts own) (hM : MC l y w rm D (.ref b :: As) wc wf tf mc ms) (cw : va_CN R s args own index y host bytes maxL none w rm mc ms n ∧ y.name = "<init>" ∧ (Cond.instanceMethod y).before args s = true)
    (hK : va_K D vwCl tys s) (hP : va_P D vwCl ws H) (hD : va_D A ws) (hS : va_S A H0 H locs) (hA : ∀ q, H0.size ≤ q → A q) (isC isR : List Nat) (hCs : isC.map (fun i => ws[i]?) = wc.map some) (hR : isR.map (fun i => ws[i]?) = wr.map some) (hnn : (va_nd isR && va_nd isC && isR.all (fun i => !(isC.contains i))) = true)
    (hn : As.length = n) (hsize : ls.size = nL) (hstack : st0 = As.reverse ++ .ref b :: rest) (hrm : (rest.map fun v => v.category).sum ≤ 8) (hdg : decode cc pc = .ok (.invokespecial index, 3)) (hcl : cells + mc ≤ R.cells ∧ slots + ms ≤ R.slots)
    (kk : ∀ (u : α) (H1 : Heap) (locs1 : List Loc), va_K D vwCl (tys ++ tf u) s → va_P D vwCl (wr ++ wf u) H1 → va_D A (wr ++ wf u) → va_S A H0 H1 locs1 → W p l e R s m args below meth c H1 locs1 (cells + mc) (slots + ms) Q (F0 m (pc + 3) ls rest)) : W p l e R s m args below meth c H locs cells slots Q (F0 m pc ls st0) := by
  have hPc := hP.sub (ws' := wc) isC (fm_of hCs)
  have hDc : va_D A wc := hD.sub (ws' := wc) isC (by
    simp only [Bool.and_eq_true] at hnn
    exact hnn.1.2) hCs
  have hKc := hK.sub (tys' := []) [] rfl
  have hpre : ∀ U : State, U.heap = H → s.WarmedH U.vm → va_Pc (.ref b :: As) (cPre D [] wc H.size) (Value.ref b :: As).toArray U := fun U hU hW => ⟨rfl, by rw [hU], by rw [hU]; exact hPc, va_K.moved hW.alike hKc, hDc.weaken (fun _ _ _ _ => trivial)⟩
  exact cN_core (va_runIN (As := As) (rest := rest) S (hM H.size) cw ⟨c_blind, hpre⟩ rfl hn hsize hstack (lv_room hrm) hdg hcl) hK hP hD hS hA isC isR hCs hR hnn kk
end RowsC
