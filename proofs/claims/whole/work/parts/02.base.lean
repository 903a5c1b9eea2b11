/-! The general rows: booleans, the words of the functions, contracts, calls. -/
def bI (b : Bool) : Int32 := match b with
  | true => 1
  | false => 0
theorem bI_t : bI true = 1 := rfl
theorem bI_f : bI false = 0 := rfl
theorem bI_0 {b : Bool} (h : bI b = 0) : b = false := by
  cases b with
  | false => rfl
  | true => exact absurd h (by decide)
theorem bI_n0 {b : Bool} (h : ¬ bI b = 0) : b = true := by
  cases b with
  | true => rfl
  | false => exact absurd rfl h
theorem nar_bI (b : Bool) : narrow .boolean (.int (bI b)) = .int (bI b) := by cases b <;> rfl
theorem vnar_bI (b : Bool) : vp_nar .boolean (bI b) = bI b := by cases b <;> rfl
theorem fit_bI (b : Bool) : fits .boolean (.int (bI b)) = true := by cases b <;> rfl
/-- a value under a name -/
def lt1 {α β : Type} (t : α) (f : α → Option β) : Option β := f t
theorem lt1_el {α β : Type} {t : α} {f : α → Option β} {v : Option β} (h : lt1 t f = v) : ∃ x, x = t ∧ f x = v := ⟨t, rfl, h⟩
/-- behind a call -/
def bd {α β : Type} (x : Option α) (f : α → Option β) : Option β := match x with
  | none => none
  | some u => f u
theorem bd_el {α β : Type} {x : Option α} {f : α → Option β} {v : β} (h : bd x f = some v) : ∃ u, x = some u ∧ f u = some v := by
  cases x with
  | none => cases h
  | some u => exact ⟨u, rfl, h⟩
theorem bd_some {α β : Type} {u : α} {f : α → Option β} : bd (some u) f = f u := rfl
/-- what must hold -/
def gd {β : Type} (c : Prop) [Decidable c] (x : Option β) : Option β := if c then x else none
theorem gd_el {β : Type} {c : Prop} [Decidable c] {x : Option β} {v : β} (h : gd c x = some v) : c ∧ x = some v := by
  unfold gd at h
  by_cases hc : c
  · rw [if_pos hc] at h; exact ⟨hc, h⟩
  · rw [if_neg hc] at h; cases h
theorem gd_t {β : Type} {c : Prop} [Decidable c] {x : Option β} (hc : c) : gd c x = x := if_pos hc
theorem it_t {β : Type} {c : Prop} [Decidable c] {x y v : β} (hc : c) (h : (if c then x else y) = v) : x = v := by rw [if_pos hc] at h; exact h
theorem it_f {β : Type} {c : Prop} [Decidable c] {x y v : β} (hc : ¬ c) (h : (if c then x else y) = v) : y = v := by rw [if_neg hc] at h; exact h
def bt {β : Type} (b : Bool) (x y : β) : β := match b with
  | true => x
  | false => y
theorem bt_t {β : Type} {b : Bool} {x y v : β} (hb : b = true) (h : bt b x y = v) : x = v := by subst hb; exact h
theorem bt_f {β : Type} {b : Bool} {x y v : β} (hb : b = false) (h : bt b x y = v) : y = v := by subst hb; exact h
/-- in range, as a test -/
def inR (i : Int32) (n : Nat) : Bool := !(decide (i < 0) || decide (n ≤ i.toNatClampNeg))
theorem inR_in {i : Int32} {n : Nat} (h : inR i n = true) : vp_in i n := by
  unfold inR at h
  unfold vp_in
  intro hc
  rcases hc with hc | hc <;> simp [hc] at h
theorem inR_of {i : Int32} {n : Nat} (h : vp_in i n) : inR i n = true := by
  unfold vp_in at h
  unfold inR
  have h1 : ¬ i < 0 := fun q => h (Or.inl q)
  have h2 : ¬ n ≤ i.toNatClampNeg := fun q => h (Or.inr q)
  simp only [h1, h2, decide_false, Bool.or_false, Bool.not_false]
theorem i32_of_toInt {x : Int32} {k : Int32} (h : x.toInt = k.toInt) : x = k := Int32.toInt_inj.mp h
/-- cells -/
abbrev cPre (D : va_G) (tys : List (ClassId × FieldType)) (ws : va_W) (sz : Nat) : State → Prop := fun U => U.heap.size = sz ∧ va_P D vwCl ws U.heap ∧ va_K D vwCl tys U ∧ va_D (fun _ => True) ws
abbrev cB (D : va_G) (tys : List (ClassId × FieldType)) (ws : va_W) (A : Nat → Prop) : Unit → State → Prop := fun _ t => va_P D vwCl ws t.heap ∧ va_K D vwCl tys t ∧ va_D A ws
/-- contracts: an int (or a boolean) comes back -/
def MI (l : Launch) (y : MethodName) (w : List Cond) (rm : Room) (D : va_G) (tys : List (ClassId × FieldType)) (av : List Value) (ws ws' : va_W) (r : Int32) : Prop :=
  ∀ sz : Nat, Met l y w rm (va_Pc av (cPre D tys ws sz)) (va_Qi (fun r' (_ : Unit) => r' = r) (cB D tys ws' (va_A ws sz)) (va_A ws sz)) 0 0 (va_A ws sz)
/-- contracts: nothing comes back -/
def MV (l : Launch) (y : MethodName) (w : List Cond) (rm : Room) (D : va_G) (tys : List (ClassId × FieldType)) (av : List Value) (ws ws' : va_W) : Prop :=
  ∀ sz : Nat, Met l y w rm (va_Pc av (cPre D tys ws sz)) (va_Qv (fun _ : Unit => True) (cB D tys ws' (va_A ws sz)) (va_A ws sz)) 0 0 (va_A ws sz)
def QI (below : List Frame) (D : va_G) (tys : List (ClassId × FieldType)) (ws' : va_W) (r : Int32) (args : Array Value) (s : State) (A : Nat → Prop) : State → Prop :=
  MQ below (va_Qi (fun r' (_ : Unit) => r' = r) (cB D tys ws' A) A) args s 0 0 A
def QV (below : List Frame) (D : va_G) (tys : List (ClassId × FieldType)) (ws' : va_W) (args : Array Value) (s : State) (A : Nat → Prop) : State → Prop :=
  MQ below (va_Qv (fun _ : Unit => True) (cB D tys ws' A) A) args s 0 0 A
theorem c_blind {D : va_G} {tys : List (ClassId × FieldType)} {ws : va_W} {sz : Nat} {av : List Value} : FrameBlind (va_Pc av (cPre D tys ws sz)) := fun a U g mk q => by
  obtain ⟨q0, q1, qP, qK, qD⟩ := q
  exact ⟨q0, q1, qP, va_K.moved (u := U) (U := U.calling g mk a) (Vm.Alike.refl U.vm) qK, qD⟩
theorem MI.ofW {l : Launch} {y : MethodName} {w w' : List Cond} {rm : Room} {D : va_G} {tys : List (ClassId × FieldType)} {av : List Value} {ws ws' : va_W} {r : Int32} {cc : ByteArray} {maxL : Nat} {ret : Option FieldType} {lv : List (Nat × Value)}
    (hy : plainName y.cls = true) (hw : w = Cond.code y cc maxL ret :: w') (hav : (lg_sl av).length ≤ maxL) (hlv : lv_args 0 av = lv)
    (body : ∀ (p : Program) (e : Env) (s : State) (m : MethodId) (args : Array Value) (below : List Frame) (meth : Method) (c : Code) (A : Nat → Prop) (ls : Array Slot), p.tables.exec = Jvm.exec → c.code = cc → meth.sig.returnType = ret → c.maxLocals = maxL → (∀ q ∈ w, q.before args s = true) → s.vm.findClass y.cls = some m.cls → meth.locks = false → (∀ q : Nat, s.heap.size ≤ q → A q) → va_K D vwCl tys s → va_P D vwCl ws s.heap → va_D A ws → va_S A s.heap s.heap [] → lv_has ls maxL lv → W p l e rm s m args below meth c s.heap [] 0 0 (QI below D tys ws' r args s A) (F0 m 0 ls [])) : MI l y w rm D tys av ws ws' r := by
  intro sz
  refine Met.ofW (cc := cc) (maxL := maxL) (ret := ret) hy hw ?_
  intro p e s m args below meth c s₁ B hml hv
  obtain ⟨rfl, hsz, hP, hK, hD0⟩ := hv
  have hts := atoms_spec (ws := w) B.pre
  have hown : s.vm.findClass y.cls = some m.cls := findClass_of_methodNamed B.named
  subst hsz
  have hl := lv_entry av (n := maxL) hav
  rw [lg_entry_eq]
  rw [hlv] at hl
  exact body p e s m av.toArray below meth c (va_A ws s.heap.size) _ B.exec B.bytes B.returns hml hts hown B.notSynchronized (fun q h => Or.inr h) hK hP (hD0.self (sz := s.heap.size)) va_S.rf hl
theorem MV.ofW {l : Launch} {y : MethodName} {w w' : List Cond} {rm : Room} {D : va_G} {tys : List (ClassId × FieldType)} {av : List Value} {ws ws' : va_W} {cc : ByteArray} {maxL : Nat} {ret : Option FieldType} {lv : List (Nat × Value)}
    (hy : plainName y.cls = true) (hw : w = Cond.code y cc maxL ret :: w') (hav : (lg_sl av).length ≤ maxL) (hlv : lv_args 0 av = lv)
    (body : ∀ (p : Program) (e : Env) (s : State) (m : MethodId) (args : Array Value) (below : List Frame) (meth : Method) (c : Code) (A : Nat → Prop) (ls : Array Slot), p.tables.exec = Jvm.exec → c.code = cc → meth.sig.returnType = ret → c.maxLocals = maxL → (∀ q ∈ w, q.before args s = true) → s.vm.findClass y.cls = some m.cls → meth.locks = false → (∀ q : Nat, s.heap.size ≤ q → A q) → va_K D vwCl tys s → va_P D vwCl ws s.heap → va_D A ws → va_S A s.heap s.heap [] → lv_has ls maxL lv → W p l e rm s m args below meth c s.heap [] 0 0 (QV below D tys ws' args s A) (F0 m 0 ls [])) : MV l y w rm D tys av ws ws' := by
  intro sz
  refine Met.ofW (cc := cc) (maxL := maxL) (ret := ret) hy hw ?_
  intro p e s m args below meth c s₁ B hml hv
  obtain ⟨rfl, hsz, hP, hK, hD0⟩ := hv
  have hts := atoms_spec (ws := w) B.pre
  have hown : s.vm.findClass y.cls = some m.cls := findClass_of_methodNamed B.named
  subst hsz
  have hl := lv_entry av (n := maxL) hav
  rw [lg_entry_eq]
  rw [hlv] at hl
  exact body p e s m av.toArray below meth c (va_A ws s.heap.size) _ B.exec B.bytes B.returns hml hts hown B.notSynchronized (fun q h => Or.inr h) hK hP (hD0.self (sz := s.heap.size)) va_S.rf hl
theorem fm_of {α β : Type} {f : α → Option β} : ∀ {is : List α} {wc : List β}, is.map f = wc.map some → is.filterMap f = wc
  | [], [], _ => rfl
  | [], _ :: _, h => by cases h
  | _ :: _, [], h => by cases h
  | i :: is, w :: wc, h => by
    simp only [List.map_cons, List.cons.injEq] at h
    rw [List.filterMap_cons, h.1, fm_of h.2]
section Rows2
variable {p : Program} {l : Launch} {e : Env} {R : Room} {s : State} {m : MethodId} {args : Array Value} {below : List Frame} {meth : Method} {c : Code} {H H0 : Heap} {locs : List Loc} {cells slots : Nat} {Q : State → Prop} {cc : ByteArray} {pc : Nat} {ls : Array Slot} {rest : List Value} {A : Nat → Prop} {D : va_G} {tys : List (ClassId × FieldType)} {ws ws' : va_W}
/-- the returns -/
theorem rI {α : Type} {wf : α → va_W} {rf : α → Int32} {u u0 : α} {v : Int32} (hx : p.tables.exec = Jvm.exec) (hb : c.code = cc) (hr : meth.sig.returnType = some .int) (hlocks : meth.locks = false) (hK : va_K D vwCl tys s) (hP : va_P D vwCl (wf u) H) (hD : va_D A (wf u)) (hS : va_S A s.heap H locs) (hF : some u = some u0) (hv : v = rf u) (hdg : decode cc pc = .ok (.ireturn, 1)) :
    W p l e R s m args below meth c H locs 0 0 (QI below D tys (wf u0) (rf u0) args s A) (F0 m pc ls [.int v]) := by
  obtain rfl := Option.some.inj hF
  exact W.iret (v := v) hx hb hr (fun t ht hW => ⟨⟨v, (), rfl, hv, by rw [ht]; exact hP, va_K.moved hW.alike hK, hD⟩, hS.F ht⟩) hS.2.2 hdg
theorem rZ {α : Type} {wf : α → va_W} {rf : α → Bool} {u u0 : α} {v : Int32} (hx : p.tables.exec = Jvm.exec) (hb : c.code = cc) (hr : meth.sig.returnType = some .boolean) (hlocks : meth.locks = false) (hK : va_K D vwCl tys s) (hP : va_P D vwCl (wf u) H) (hD : va_D A (wf u)) (hS : va_S A s.heap H locs) (hF : some u = some u0) (hv : v = bI (rf u)) (hdg : decode cc pc = .ok (.ireturn, 1)) :
    W p l e R s m args below meth c H locs 0 0 (QI below D tys (wf u0) (bI (rf u0)) args s A) (F0 m pc ls [.int v]) := by
  obtain rfl := Option.some.inj hF
  exact W.zret (v := v) hx hb hr (by rw [hv]; exact nar_bI _) (fun t ht hW => ⟨⟨v, (), rfl, hv, by rw [ht]; exact hP, va_K.moved hW.alike hK, hD⟩, hS.F ht⟩) hS.2.2 hdg
theorem rV {α : Type} {wf : α → va_W} {u u0 : α} (hx : p.tables.exec = Jvm.exec) (hb : c.code = cc) (hr : meth.sig.returnType = none) (hlocks : meth.locks = false) (hK : va_K D vwCl tys s) (hP : va_P D vwCl (wf u) H) (hD : va_D A (wf u)) (hS : va_S A s.heap H locs) (hF : some u = some u0) (hdg : decode cc pc = .ok (.return_, 1)) :
    W p l e R s m args below meth c H locs 0 0 (QV below D tys (wf u0) args s A) (F0 m pc ls []) := by
  obtain rfl := Option.some.inj hF
  exact W.vret hx hb hr (fun t ht hW => ⟨⟨(), rfl, trivial, by rw [ht]; exact hP, va_K.moved hW.alike hK, hD⟩, hS.F ht⟩) hS.2.2 hdg
/-- a field written, the world behind it by its name -/
theorem pf {own ref C : String} {T : u_T} {N ci index a : Nat} {Ts : List Cond} {ty0 : Nat → FieldType} (hx : p.tables.exec = Jvm.exec) (hb : c.code = cc) (hts : ∀ w ∈ Ts, w.before args s = true) (hin : ∀ w ∈ u_ws C T N, w ∈ Ts) (hty : ∀ k, k < N → parseFieldDescriptor (T k).2.2.1 = some (ty0 k)) (hnm : ∀ a, a < N → ∀ b, b < N → a ≠ b → (T a).2.1 ≠ (T b).2.1) (hown : s.vm.findClass own = some m.cls) (hK : va_K D vwCl tys s) (hP : va_P D vwCl ws H) (hD : va_D A ws) (hS : va_S A H0 H locs) (q0 : Nat) {fs : List Value} (he : ws[q0]? = some (a, .inr (ci, fs))) (hc : vwCl[ci]? = some (C, T, N)) (k : Nat) (hk : k < N) (hlink : (Cond.fieldLink own index ref (T k).2.1 (T k).2.2.1).before args s = true) (hsame : (T k).1 = ref) (hfin : (T k).2.2.2 = false) {ty : FieldType} {v : Value} (hd : parseFieldDescriptor (T k).2.2.1 = some ty) (hn : narrow ty v = v) (hfit : fits ty v = true) (hl : k < fs.length) (hset : ws.set q0 (a, .inr (ci, fs.set k v)) = ws')
    (hdg : decode cc pc = .ok (.putfield index, 3)) (kk : ∀ (H1 : Heap) (locs1 : List Loc), va_P D vwCl ws' H1 → va_D A ws' → va_S A H0 H1 locs1 → W p l e R s m args below meth c H1 locs1 cells slots Q (F0 m (pc + 3) ls rest)) : W p l e R s m args below meth c H locs cells slots Q (F0 m pc ls (v :: .ref a :: rest)) := by
  subst hset
  exact va_put hx hb hts hin ty0 hty hnm hown hK hP hD hS q0 he hc k hk hlink (fun x h => by rw [← hsame]; exact h) hfin hd hn hfit hl hdg kk
/-- ints in an array written -/
theorem ias {a : Nat} (hx : p.tables.exec = Jvm.exec) (hb : c.code = cc) (hK : va_K D vwCl tys s) (hP : va_P D vwCl ws H) (hD : va_D A ws) (hS : va_S A H0 H locs) (q0 t0 : Nat) {cA : ClassId} {n : Nat} {f : Nat → Int32} (ha : ws[q0]? = some (a, .inl (cA, n, .inl f))) (ht : tys[t0]? = some (cA, .int)) {i x : Int32} (hin : inR i n = true) (hset : ws.set q0 (a, .inl (cA, n, .inl (upd f i.toNatClampNeg x))) = ws') (hdg : decode cc pc = .ok (.iastore, 1))
    (kk : ∀ (H1 : Heap) (locs1 : List Loc), va_P D vwCl ws' H1 → va_D A ws' → va_S A H0 H1 locs1 → W p l e R s m args below meth c H1 locs1 cells slots Q (F0 m (pc + 1) ls rest)) : W p l e R s m args below meth c H locs cells slots Q (F0 m pc ls (.int x :: .int i :: .ref a :: rest)) := by
  subst hset
  exact va_iast hx hb hK hP hD hS q0 t0 ha ht (inR_in hin) hdg kk
/-- booleans in an array: what the cell holds -/
def bF (f : Nat → Bool) : Nat → Int32 := fun j => bI (f j)
theorem bF_up (f : Nat → Bool) (k : Nat) (x : Bool) : upd (bF f) k (vp_nar .boolean (bI x)) = bF (va_up f k x) := by
  funext j
  rw [vnar_bI]
  unfold upd bF va_up
  by_cases h : j = k
  · simp [h]
  · simp [h]
theorem zas {a : Nat} (hx : p.tables.exec = Jvm.exec) (hb : c.code = cc) (hK : va_K D vwCl tys s) (hP : va_P D vwCl ws H) (hD : va_D A ws) (hS : va_S A H0 H locs) (q0 t0 : Nat) {cA : ClassId} {n : Nat} {f : Nat → Bool} (ha : ws[q0]? = some (a, .inl (cA, n, .inl (bF f)))) (ht : tys[t0]? = some (cA, .boolean)) {i : Int32} {x : Bool} {xv : Int32} (hxv : xv = bI x) (hin : inR i n = true) (hset : ws.set q0 (a, .inl (cA, n, .inl (bF (va_up f i.toNatClampNeg x)))) = ws') (hdg : decode cc pc = .ok (.bastore, 1))
    (kk : ∀ (H1 : Heap) (locs1 : List Loc), va_P D vwCl ws' H1 → va_D A ws' → va_S A H0 H1 locs1 → W p l e R s m args below meth c H1 locs1 cells slots Q (F0 m (pc + 1) ls rest)) : W p l e R s m args below meth c H locs cells slots Q (F0 m pc ls (.int xv :: .int i :: .ref a :: rest)) := by
  subst hset
  subst hxv
  refine va_zast hx hb hK hP hD hS q0 t0 ha ht (inR_in hin) hdg (fun H1 locs1 h1 h2 h3 => ?_)
  rw [bF_up] at h1 h2
  exact kk H1 locs1 h1 h2 h3
theorem cI_core {tysC : List (ClassId × FieldType)} {st0 : List Value} {wc wr w1 : va_W} {r rv : Int32} {a : Array Value} (hr : va_Run p l e R s m args below meth c H locs cells slots 0 0 (F0 m pc ls st0) rest (va_Qi (fun r' (_ : Unit) => r' = r) (cB D tysC w1 (va_A wc H.size)) (va_A wc H.size) a) (va_A wc H.size))
    (hK : va_K D vwCl tys s) (hP : va_P D vwCl ws H) (hD : va_D A ws) (hS : va_S A H0 H locs) (hA : ∀ q, H0.size ≤ q → A q) (isT isC isR isN : List Nat) (hT : isT.filterMap (fun i => tys[i]?) = tysC) (hCs : isC.map (fun i => ws[i]?) = wc.map some) (hR : isR.map (fun i => ws[i]?) = wr.map some) (hnn : (va_nd isR && va_nd isC && va_nd isN && isR.all (fun i => !(isC.contains i))) = true) (hN : isN.map (fun i => (wr ++ w1)[i]?) = ws'.map some) (hrv : r = rv)
    (kk : ∀ (H1 : Heap) (locs1 : List Loc), va_P D vwCl ws' H1 → va_D A ws' → va_S A H0 H1 locs1 → W p l e R s m args below meth c H1 locs1 cells slots Q (F0 m (pc + 3) ls (.int rv :: rest))) : W p l e R s m args below meth c H locs cells slots Q (F0 m pc ls st0) := by
  simp only [Bool.and_eq_true, List.all_eq_true] at hnn
  obtain ⟨⟨⟨hn1, hn2⟩, hn3⟩, hdis0⟩ := hnn
  have hdis : ∀ i ∈ isR, i ∉ isC := fun i hi hc => by
    have h := hdis0 i hi
    rw [List.contains_iff_mem.mpr hc] at h
    cases h
  have hFc := va_free (wc := wc) hD hS hA isC hCs
  subst hrv
  refine va_calli hr hS (fun q _ h => hFc q h) hFc (fun r1 u t H1 locs1 ht hvm hw hB hz1 hk1 hS1 => ?_)
  obtain ⟨hP1, hK1, hD1⟩ := hB
  rw [ht] at hP1
  obtain ⟨hP2, hD2⟩ := va_join (wr := wr) (w1 := w1) hP hD isC isR hCs hR hn1 hdis hk1 hFc hP1 hD1
  subst hw
  exact kk H1 locs1 (hP2.sub isN (fm_of hN)) (hD2.sub isN hn3 hN) hS1
theorem cV_core {tysC : List (ClassId × FieldType)} {st0 : List Value} {wc wr w1 : va_W} {a : Array Value} (hr : va_Run p l e R s m args below meth c H locs cells slots 0 0 (F0 m pc ls st0) rest (va_Qv (fun _ : Unit => True) (cB D tysC w1 (va_A wc H.size)) (va_A wc H.size) a) (va_A wc H.size))
    (hK : va_K D vwCl tys s) (hP : va_P D vwCl ws H) (hD : va_D A ws) (hS : va_S A H0 H locs) (hA : ∀ q, H0.size ≤ q → A q) (isT isC isR isN : List Nat) (hT : isT.filterMap (fun i => tys[i]?) = tysC) (hCs : isC.map (fun i => ws[i]?) = wc.map some) (hR : isR.map (fun i => ws[i]?) = wr.map some) (hnn : (va_nd isR && va_nd isC && va_nd isN && isR.all (fun i => !(isC.contains i))) = true) (hN : isN.map (fun i => (wr ++ w1)[i]?) = ws'.map some)
    (kk : ∀ (H1 : Heap) (locs1 : List Loc), va_P D vwCl ws' H1 → va_D A ws' → va_S A H0 H1 locs1 → W p l e R s m args below meth c H1 locs1 cells slots Q (F0 m (pc + 3) ls rest)) : W p l e R s m args below meth c H locs cells slots Q (F0 m pc ls st0) := by
  simp only [Bool.and_eq_true, List.all_eq_true] at hnn
  obtain ⟨⟨⟨hn1, hn2⟩, hn3⟩, hdis0⟩ := hnn
  have hdis : ∀ i ∈ isR, i ∉ isC := fun i hi hc => by
    have h := hdis0 i hi
    rw [List.contains_iff_mem.mpr hc] at h
    cases h
  have hFc := va_free (wc := wc) hD hS hA isC hCs
  refine va_callv hr hS (fun q _ h => hFc q h) hFc (fun u t H1 locs1 ht hvm hw hB hz1 hk1 hS1 => ?_)
  obtain ⟨hP1, hK1, hD1⟩ := hB
  rw [ht] at hP1
  obtain ⟨hP2, hD2⟩ := va_join (wr := wr) (w1 := w1) hP hD isC isR hCs hR hn1 hdis hk1 hFc hP1 hD1
  exact kk H1 locs1 (hP2.sub isN (fm_of hN)) (hD2.sub isN hn3 hN) hS1
theorem cVI {Ts w : List Cond} {nL index maxL n b q0 ci : Nat} {own C : String} {y : MethodName} {bytes : ByteArray} {ret : Option FieldType} {rm : Room} {tysC : List (ClassId × FieldType)} {As st0 : List Value} {wc wr w1 : va_W} {r rv : Int32} {fs : List Value} {q : vw_C} (S : CallFix p m c cc nL s args Ts own) (hM : MI l y w rm D tysC (.ref b :: As) wc w1 r) (cw : CallW R s args own C index y bytes maxL ret w rm 0 0 n)
    (hK : va_K D vwCl tys s) (hP : va_P D vwCl ws H) (hD : va_D A ws) (hS : va_S A H0 H locs) (hA : ∀ q, H0.size ≤ q → A q) (isT isC isR isN : List Nat) (hT : isT.filterMap (fun i => tys[i]?) = tysC) (hCs : isC.map (fun i => ws[i]?) = wc.map some) (hR : isR.map (fun i => ws[i]?) = wr.map some) (hnn : (va_nd isR && va_nd isC && va_nd isN && isR.all (fun i => !(isC.contains i))) = true) (hN : isN.map (fun i => (wr ++ w1)[i]?) = ws'.map some) (hc : vwCl[ci]? = some q) (hq : q.1 = C) (he : ws[q0]? = some (b, .inr (ci, fs))) (hn : As.length = n) (hsize : ls.size = nL) (hstack : st0 = As.reverse ++ .ref b :: rest) (hrm : (rest.map fun v => v.category).sum ≤ 8) (hrv : r = rv) (hdg : decode cc pc = .ok (.invokevirtual index, 3)) (hcl : cells ≤ R.cells ∧ slots ≤ R.slots)
    (kk : ∀ (H1 : Heap) (locs1 : List Loc), va_P D vwCl ws' H1 → va_D A ws' → va_S A H0 H1 locs1 → W p l e R s m args below meth c H1 locs1 cells slots Q (F0 m (pc + 3) ls (.int rv :: rest))) : W p l e R s m args below meth c H locs cells slots Q (F0 m pc ls st0) := by
  have hPc := hP.sub (ws' := wc) isC (fm_of hCs)
  have hDc : va_D A wc := hD.sub (ws' := wc) isC (by
    simp only [Bool.and_eq_true] at hnn
    exact hnn.1.1.2) hCs
  have hKc := hK.sub (tys' := tysC) isT hT
  have hpre : ∀ U : State, U.heap = H → s.WarmedH U.vm → va_Pc (.ref b :: As) (cPre D tysC wc H.size) ((.ref b :: As) : List Value).toArray U := fun U hU hW => ⟨rfl, by rw [hU], by rw [hU]; exact hPc, va_K.moved hW.alike hKc, hDc.weaken (fun _ _ _ _ => trivial)⟩
  exact cI_core (va_runV (As := As) (rest := rest) S (hM H.size) cw ⟨c_blind, by rw [← hq]; exact va_recv hK hP hc he, hpre⟩ rfl hn hsize hstack (lv_room hrm) hdg ⟨hcl.1, hcl.2⟩) hK hP hD hS hA isT isC isR isN hT hCs hR hnn hN hrv kk
theorem cVV {Ts w : List Cond} {nL index maxL n b q0 ci : Nat} {own C : String} {y : MethodName} {bytes : ByteArray} {ret : Option FieldType} {rm : Room} {tysC : List (ClassId × FieldType)} {As st0 : List Value} {wc wr w1 : va_W} {fs : List Value} {q : vw_C} (S : CallFix p m c cc nL s args Ts own) (hM : MV l y w rm D tysC (.ref b :: As) wc w1) (cw : CallW R s args own C index y bytes maxL ret w rm 0 0 n)
    (hK : va_K D vwCl tys s) (hP : va_P D vwCl ws H) (hD : va_D A ws) (hS : va_S A H0 H locs) (hA : ∀ q, H0.size ≤ q → A q) (isT isC isR isN : List Nat) (hT : isT.filterMap (fun i => tys[i]?) = tysC) (hCs : isC.map (fun i => ws[i]?) = wc.map some) (hR : isR.map (fun i => ws[i]?) = wr.map some) (hnn : (va_nd isR && va_nd isC && va_nd isN && isR.all (fun i => !(isC.contains i))) = true) (hN : isN.map (fun i => (wr ++ w1)[i]?) = ws'.map some) (hc : vwCl[ci]? = some q) (hq : q.1 = C) (he : ws[q0]? = some (b, .inr (ci, fs))) (hn : As.length = n) (hsize : ls.size = nL) (hstack : st0 = As.reverse ++ .ref b :: rest) (hrm : (rest.map fun v => v.category).sum ≤ 8) (hdg : decode cc pc = .ok (.invokevirtual index, 3)) (hcl : cells ≤ R.cells ∧ slots ≤ R.slots)
    (kk : ∀ (H1 : Heap) (locs1 : List Loc), va_P D vwCl ws' H1 → va_D A ws' → va_S A H0 H1 locs1 → W p l e R s m args below meth c H1 locs1 cells slots Q (F0 m (pc + 3) ls rest)) : W p l e R s m args below meth c H locs cells slots Q (F0 m pc ls st0) := by
  have hPc := hP.sub (ws' := wc) isC (fm_of hCs)
  have hDc : va_D A wc := hD.sub (ws' := wc) isC (by
    simp only [Bool.and_eq_true] at hnn
    exact hnn.1.1.2) hCs
  have hKc := hK.sub (tys' := tysC) isT hT
  have hpre : ∀ U : State, U.heap = H → s.WarmedH U.vm → va_Pc (.ref b :: As) (cPre D tysC wc H.size) ((.ref b :: As) : List Value).toArray U := fun U hU hW => ⟨rfl, by rw [hU], by rw [hU]; exact hPc, va_K.moved hW.alike hKc, hDc.weaken (fun _ _ _ _ => trivial)⟩
  exact cV_core (va_runV (As := As) (rest := rest) S (hM H.size) cw ⟨c_blind, by rw [← hq]; exact va_recv hK hP hc he, hpre⟩ rfl hn hsize hstack (lv_room hrm) hdg ⟨hcl.1, hcl.2⟩) hK hP hD hS hA isT isC isR isN hT hCs hR hnn hN kk
theorem cSI {Ts w : List Cond} {nL index maxL n : Nat} {own : String} {y : MethodName} {bytes : ByteArray} {ret : Option FieldType} {rm : Room} {tysC : List (ClassId × FieldType)} {As st0 : List Value} {wc wr w1 : va_W} {r rv : Int32} (S : CallFix p m c cc nL s args Ts own) (hM : MI l y w rm D tysC As wc w1 r) (cw : CallB R s args own index y bytes maxL ret w rm 0 0 n ∧ (Cond.static y).before args s = true)
    (hK : va_K D vwCl tys s) (hP : va_P D vwCl ws H) (hD : va_D A ws) (hS : va_S A H0 H locs) (hA : ∀ q, H0.size ≤ q → A q) (isT isC isR isN : List Nat) (hT : isT.filterMap (fun i => tys[i]?) = tysC) (hCs : isC.map (fun i => ws[i]?) = wc.map some) (hR : isR.map (fun i => ws[i]?) = wr.map some) (hnn : (va_nd isR && va_nd isC && va_nd isN && isR.all (fun i => !(isC.contains i))) = true) (hN : isN.map (fun i => (wr ++ w1)[i]?) = ws'.map some) (hn : As.length = n) (hsize : ls.size = nL) (hstack : st0 = As.reverse ++ rest) (hrm : (rest.map fun v => v.category).sum ≤ 8) (hrv : r = rv) (hdg : decode cc pc = .ok (.invokestatic index, 3)) (hcl : cells ≤ R.cells ∧ slots ≤ R.slots)
    (kk : ∀ (H1 : Heap) (locs1 : List Loc), va_P D vwCl ws' H1 → va_D A ws' → va_S A H0 H1 locs1 → W p l e R s m args below meth c H1 locs1 cells slots Q (F0 m (pc + 3) ls (.int rv :: rest))) : W p l e R s m args below meth c H locs cells slots Q (F0 m pc ls st0) := by
  have hPc := hP.sub (ws' := wc) isC (fm_of hCs)
  have hDc : va_D A wc := hD.sub (ws' := wc) isC (by
    simp only [Bool.and_eq_true] at hnn
    exact hnn.1.1.2) hCs
  have hKc := hK.sub (tys' := tysC) isT hT
  have hpre : ∀ U : State, U.heap = H → s.WarmedH U.vm → va_Pc As (cPre D tysC wc H.size) (As : List Value).toArray U := fun U hU hW => ⟨rfl, by rw [hU], by rw [hU]; exact hPc, va_K.moved hW.alike hKc, hDc.weaken (fun _ _ _ _ => trivial)⟩
  exact cI_core (va_runS (As := As) (rest := rest) S (hM H.size) cw ⟨c_blind, hpre⟩ rfl hn hsize hstack (lv_room hrm) hdg ⟨hcl.1, hcl.2⟩) hK hP hD hS hA isT isC isR isN hT hCs hR hnn hN hrv kk
theorem cSV {Ts w : List Cond} {nL index maxL n : Nat} {own : String} {y : MethodName} {bytes : ByteArray} {ret : Option FieldType} {rm : Room} {tysC : List (ClassId × FieldType)} {As st0 : List Value} {wc wr w1 : va_W} (S : CallFix p m c cc nL s args Ts own) (hM : MV l y w rm D tysC As wc w1) (cw : CallB R s args own index y bytes maxL ret w rm 0 0 n ∧ (Cond.static y).before args s = true)
    (hK : va_K D vwCl tys s) (hP : va_P D vwCl ws H) (hD : va_D A ws) (hS : va_S A H0 H locs) (hA : ∀ q, H0.size ≤ q → A q) (isT isC isR isN : List Nat) (hT : isT.filterMap (fun i => tys[i]?) = tysC) (hCs : isC.map (fun i => ws[i]?) = wc.map some) (hR : isR.map (fun i => ws[i]?) = wr.map some) (hnn : (va_nd isR && va_nd isC && va_nd isN && isR.all (fun i => !(isC.contains i))) = true) (hN : isN.map (fun i => (wr ++ w1)[i]?) = ws'.map some) (hn : As.length = n) (hsize : ls.size = nL) (hstack : st0 = As.reverse ++ rest) (hrm : (rest.map fun v => v.category).sum ≤ 8) (hdg : decode cc pc = .ok (.invokestatic index, 3)) (hcl : cells ≤ R.cells ∧ slots ≤ R.slots)
    (kk : ∀ (H1 : Heap) (locs1 : List Loc), va_P D vwCl ws' H1 → va_D A ws' → va_S A H0 H1 locs1 → W p l e R s m args below meth c H1 locs1 cells slots Q (F0 m (pc + 3) ls rest)) : W p l e R s m args below meth c H locs cells slots Q (F0 m pc ls st0) := by
  have hPc := hP.sub (ws' := wc) isC (fm_of hCs)
  have hDc : va_D A wc := hD.sub (ws' := wc) isC (by
    simp only [Bool.and_eq_true] at hnn
    exact hnn.1.1.2) hCs
  have hKc := hK.sub (tys' := tysC) isT hT
  have hpre : ∀ U : State, U.heap = H → s.WarmedH U.vm → va_Pc As (cPre D tysC wc H.size) (As : List Value).toArray U := fun U hU hW => ⟨rfl, by rw [hU], by rw [hU]; exact hPc, va_K.moved hW.alike hKc, hDc.weaken (fun _ _ _ _ => trivial)⟩
  exact cV_core (va_runS (As := As) (rest := rest) S (hM H.size) cw ⟨c_blind, hpre⟩ rfl hn hsize hstack (lv_room hrm) hdg ⟨hcl.1, hcl.2⟩) hK hP hD hS hA isT isC isR isN hT hCs hR hnn hN kk
end Rows2
