/-! PURE: register 2 written, on both sides. -/
theorem m297 {y L : Int32} (h : F_X8_levelOf (y >>> ((6 : Int32) &&& 31)) = some L) (ins : Int32) (dv ck wn : Int32) (ro : Bool) (lv fo ou kp ch rm sm : Int32) (em lu : Bool) (lc th : Int32) (sA : Nat → Int32) : F_X9_write_297 ins 16 y dv ck wn ro lv fo ou kp ch rm sm em lu lc th sA = some (dv, ck, wn, ro, L, fo, ou, kp, ch, rm, sm, em, lu, lc, th, sA) := by
  unfold F_X9_write_297
  rw [lt1_eq]
  generalize y >>> ((6 : Int32) &&& 31) = z at h
  unfold F_X8_levelOf at h
  by_cases h0 : z = 0
  · rw [if_pos h0] at h
    rw [if_pos h0]
    cases h
    rfl
  · rw [if_neg h0] at h
    rw [if_neg h0]
    by_cases h1 : z = 1
    · rw [if_pos h1] at h
      rw [if_pos h1]
      cases h
      rfl
    · rw [if_neg h1] at h
      rw [if_neg h1]
      by_cases h2 : z = 2
      · rw [if_pos h2] at h
        rw [if_pos h2]
        cases h
        rfl
      · rw [if_neg h2] at h
        rw [if_neg h2]
        cases h
        rfl
theorem sim_rows {x l : Nat} (hx : x < 256) (hl1 : 1 ≤ l) (hl2 : l ≤ 14) {rowsOn lu mlu : Bool} {rh rs rm sh ss sm be qu lc : Int32} {sca sA ra rc mk : Nat → Int32} (hS : RS rowsOn sh ss sca sm sA) (hR : RR rowsOn rh rs ra rm rc mk) (hL : RLt rowsOn lu mlu rs be qu lc) (ins dv ck wn fo ou kp ch : Int32) (em : Bool) :
    ∃ uc, F_X8_putRowControl (nI x) (nI l) rowsOn lu rh rs sh ss = some uc ∧ ∃ (rm' sm' : Int32) (mlu' : Bool) (lc' : Int32), (if (nI x &&& 1) = 0 then F_X9_write_245 ins 16 false (nI x) dv ck wn rowsOn (nI l) fo ou kp ch rm sm em mlu lc 0 sA else F_X9_write_245 ins 16 true (nI x) dv ck wn rowsOn (nI l) fo ou kp ch rm sm em mlu lc 0 sA) = some (dv, ck, wn, uc.2.1, uc.1, fo, ou, kp, ch, rm', sm', em, mlu', lc', 0, sA) ∧ (∃ l' : Nat, 1 ≤ l' ∧ l' ≤ 14 ∧ uc.1 = nI l') ∧ RS uc.2.1 uc.2.2.2.2.2.1 uc.2.2.2.2.2.2 sca sm' sA ∧ RR uc.2.1 uc.2.2.2.1 uc.2.2.2.2.1 ra rm' rc mk ∧ RLt uc.2.1 uc.2.2.1 mlu' uc.2.2.2.2.1 be qu lc' := by
  obtain ⟨L, hL1, hL2⟩ := lv_tab ⟨x, hx⟩
  dsimp only at hL2
  have hL3 := L.isLt
  have hv := m297 hL2
  have b01 : (bI false = bI true) = False := eq_false (by decide)
  have b10 : (bI true = bI false) = False := eq_false (by decide)
  have hl : ∃ l' : Nat, 1 ≤ l' ∧ l' ≤ 14 ∧ nI l = nI l' := ⟨l, hl1, hl2, rfl⟩
  have hl' : ∃ l' : Nat, 1 ≤ l' ∧ l' ≤ 14 ∧ nI L.val = nI l' := ⟨L.val, hL1, by omega, rfl⟩
  have r0 : ∀ b q : Bool, RLt b q q 0 be qu 0 := fun b q _ => ⟨fun _ => rfl, fun _ z => absurd rfl z⟩
  unfold F_X8_putRowControl F_X8_putRowControl_11 F_X8_putRowControl_25 F_X8_putRowControl_45 F_X8_putRowControl_57 F_X8_putRowControl_71 F_X8_putRowControl_78 F_X9_write_245 F_X9_write_271 F_X9_write_286 F_X9_clearReceived F_X5_clear
  by_cases h1 : nI x &&& 1 = 0
  · cases rowsOn with
    | false =>
      simp only [h1, if_true, if_false, bt_true, bt_false, bd_some]
      exact ⟨_, rfl, _, _, _, _, rfl, hl, hS, hR, hL⟩
    | true =>
      simp only [h1, if_true, if_false, bt_true, bt_false, bd_some, b01]
      exact ⟨_, rfl, _, _, _, _, rfl, hl, rs_zero _ _ _, rr_zero _ _ _ _, r0 _ _⟩
  · cases rowsOn with
    | false =>
      by_cases h2 : nI x &&& 2 = 0 <;> by_cases h4 : nI x &&& 4 = 0 <;> simp only [h1, h2, h4, if_true, if_false, bt_true, bt_false, bd_some, b10, hL2, hv] <;> exact ⟨_, rfl, _, _, _, _, rfl, hl', rs_zero _ _ _, rr_zero _ _ _ _, r0 _ _⟩
    | true =>
      by_cases h2 : nI x &&& 2 = 0
      · by_cases h4 : nI x &&& 4 = 0
        · simp only [h1, h2, h4, if_true, if_false, bt_true, bt_false, bd_some, hL2, hv]
          exact ⟨_, rfl, _, _, _, _, rfl, hl', hS, hR, hL⟩
        · simp only [h1, h2, h4, if_true, if_false, bt_true, bt_false, bd_some, hL2, hv]
          exact ⟨_, rfl, _, _, _, _, rfl, hl', rs_zero _ _ _, hR, hL⟩
      · by_cases h4 : nI x &&& 4 = 0
        · simp only [h1, h2, h4, if_true, if_false, bt_true, bt_false, bd_some, hL2, hv]
          exact ⟨_, rfl, _, _, _, _, rfl, hl', hS, rr_zero _ _ _ _, r0 _ _⟩
        · simp only [h1, h2, h4, if_true, if_false, bt_true, bt_false, bd_some, hL2, hv]
          exact ⟨_, rfl, _, _, _, _, rfl, hl', rs_zero _ _ _, rr_zero _ _ _ _, r0 _ _⟩
