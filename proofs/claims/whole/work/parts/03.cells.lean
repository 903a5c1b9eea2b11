/-! Cells under their names, and small rows for the walks. -/
theorem lt1_x {α β : Type} {y t : α} {f : α → Option β} {v : Option β} (e : y = t) (h : lt1 t f = v) : f y = v := by
  subst e
  exact h
theorem ti_ne {x k : Int32} (h : ¬ x = k) : x.toInt ≠ k.toInt := fun q => h (Int32.toInt_inj.mp q)
theorem tb_out3 {x : Int32} (h0 : ¬ x = 0) (h1 : ¬ x = 1) (h2 : ¬ x = 2) : x.toInt < 0 ∨ 2 < x.toInt := by
  have k0 : x.toInt ≠ 0 := ti_ne h0
  have k1 : x.toInt ≠ 1 := ti_ne h1
  have k2 : x.toInt ≠ 2 := ti_ne h2
  omega
theorem tb_out7 {x : Int32} (h0 : ¬ x = 0) (h1 : ¬ x = 1) (h2 : ¬ x = 2) (h3 : ¬ x = 3) (h4 : ¬ x = 4) (h5 : ¬ x = 5) (h6 : ¬ x = 6) : x.toInt < 0 ∨ 6 < x.toInt := by
  have k0 : x.toInt ≠ 0 := ti_ne h0
  have k1 : x.toInt ≠ 1 := ti_ne h1
  have k2 : x.toInt ≠ 2 := ti_ne h2
  have k3 : x.toInt ≠ 3 := ti_ne h3
  have k4 : x.toInt ≠ 4 := ti_ne h4
  have k5 : x.toInt ≠ 5 := ti_ne h5
  have k6 : x.toInt ≠ 6 := ti_ne h6
  omega
theorem tb_out8 {x : Int32} (h0 : ¬ x = 0) (h1 : ¬ x = 1) (h2 : ¬ x = 2) (h3 : ¬ x = 3) (h4 : ¬ x = 4) (h5 : ¬ x = 5) (h6 : ¬ x = 6) (h7 : ¬ x = 7) : x.toInt < 0 ∨ 7 < x.toInt := by
  have k7 : x.toInt ≠ 7 := ti_ne h7
  have := tb_out7 h0 h1 h2 h3 h4 h5 h6
  omega
theorem tb_out9 {x : Int32} (h0 : ¬ x = 0) (h1 : ¬ x = 1) (h2 : ¬ x = 2) (h3 : ¬ x = 3) (h4 : ¬ x = 4) (h5 : ¬ x = 5) (h6 : ¬ x = 6) (h7 : ¬ x = 7) (h8 : ¬ x = 8) : x.toInt < 0 ∨ 8 < x.toInt := by
  have k8 : x.toInt ≠ 8 := ti_ne h8
  have := tb_out8 h0 h1 h2 h3 h4 h5 h6 h7
  omega
theorem lk_out2 {x : Int32} {o0 o1 dd : Int} (h0 : ¬ x = 0) (h1 : ¬ x = 1) : Op.lookupswitch.offset [(0, o0), (1, o1)] dd x.toInt = dd := by
  have k0 : x.toInt ≠ 0 := ti_ne h0
  have k1 : x.toInt ≠ 1 := ti_ne h1
  rw [Op.lookupswitch.offset_cons, if_neg (fun h => k0 h.symm), Op.lookupswitch.offset_cons, if_neg (fun h => k1 h.symm), Op.lookupswitch.offset_nil]
abbrev aI (h : Nat) (k : ClassId) (n : Nat) (a : Nat → Int32) : Nat × va_E := (h, .inl (k, n, .inl a))
abbrev aZ (h : Nat) (k : ClassId) (n : Nat) (a : Nat → Bool) : Nat × va_E := (h, .inl (k, n, .inl (bF a)))
abbrev oX0 (h : Nat) (x0 : Int32) (x1 : Int32) : Nat × va_E := (h, .inr (0, [.int x0, .int x1]))
abbrev oX1 (h : Nat) (x0 : Nat) (x1 : Bool) : Nat × va_E := (h, .inr (1, [.ref x0, .int (bI x1)]))
abbrev oX2 (h : Nat) (x0 : Nat) (x1 : Int32) : Nat × va_E := (h, .inr (2, [.ref x0, .int x1]))
abbrev oX3 (h : Nat) (x0 : Int32) (x1 : Int32) (x2 : Int32) (x3 : Int32) : Nat × va_E := (h, .inr (3, [.int x0, .int x1, .int x2, .int x3]))
abbrev oX4 (h : Nat) (x0 : Int32) (x1 : Int32) (x2 : Int32) (x3 : Bool) (x4 : Bool) (x5 : Bool) (x6 : Bool) : Nat × va_E := (h, .inr (4, [.int x0, .int x1, .int x2, .int (bI x3), .int (bI x4), .int (bI x5), .int (bI x6)]))
abbrev oX5 (h : Nat) (x0 : Nat) (x1 : Int32) (x2 : Int32) : Nat × va_E := (h, .inr (5, [.ref x0, .int x1, .int x2]))
abbrev oX6 (h : Nat) (x0 : Int32) (x1 : Int32) (x2 : Int32) (x3 : Bool) : Nat × va_E := (h, .inr (6, [.int x0, .int x1, .int x2, .int (bI x3)]))
abbrev oX8 (h : Nat) (x0 : Nat) (x1 : Nat) (x2 : Nat) (x3 : Nat) (x4 : Nat) (x5 : Nat) (x6 : Nat) (x7 : Nat) (x8 : Int32) (x9 : Int32) (x10 : Int32) (x11 : Int32) (x12 : Bool) (x13 : Bool) (x14 : Bool) (x15 : Bool) (x16 : Int32) (x17 : Int32) : Nat × va_E := (h, .inr (7, [.ref x0, .ref x1, .ref x2, .ref x3, .ref x4, .ref x5, .ref x6, .ref x7, .int x8, .int x9, .int x10, .int x11, .int (bI x12), .int (bI x13), .int (bI x14), .int (bI x15), .int x16, .int x17]))
abbrev oX9 (h : Nat) (x0 : Int32) (x1 : Int32) (x2 : Int32) (x3 : Bool) (x4 : Int32) (x5 : Int32) (x6 : Int32) (x7 : Int32) (x8 : Int32) (x9 : Int32) (x10 : Nat) (x11 : Nat) (x12 : Int32) (x13 : Bool) (x14 : Nat) (x15 : Int32) (x16 : Bool) (x17 : Bool) (x18 : Int32) (x19 : Nat) (x20 : Nat) (x21 : Int32) (x22 : Bool) (x23 : Bool) (x24 : Int32) (x25 : Int32) (x26 : Int32) (x27 : Bool) (x28 : Bool) (x29 : Bool) (x30 : Int32) (x31 : Int32) (x32 : Int32) (x33 : Int32) (x34 : Int32) (x35 : Bool) (x36 : Nat) (x37 : Nat) (x38 : Int32) (x39 : Int32) : Nat × va_E := (h, .inr (8, [.int x0, .int x1, .int x2, .int (bI x3), .int x4, .int x5, .int x6, .int x7, .int x8, .int x9, .ref x10, .ref x11, .int x12, .int (bI x13), .ref x14, .int x15, .int (bI x16), .int (bI x17), .int x18, .ref x19, .ref x20, .int x21, .int (bI x22), .int (bI x23), .int x24, .int x25, .int x26, .int (bI x27), .int (bI x28), .int (bI x29), .int x30, .int x31, .int x32, .int x33, .int x34, .int (bI x35), .ref x36, .ref x37, .int x38, .int x39]))
