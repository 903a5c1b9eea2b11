/-! PURE: the shape of a frame, on both sides. -/
theorem and1 (x : Int32) : x &&& 1 = 0 ∨ x &&& 1 = 1 := by
  obtain ⟨j, hj, e⟩ := pk_andE x (m := 1) 1 (by decide)
  have h : j = 0 ∨ j = 1 := by omega
  rcases h with rfl | rfl
  · exact Or.inl e
  · exact Or.inr e
theorem bt_true {β : Type} (x y : β) : bt true x y = x := rfl
theorem bt_false {β : Type} (x y : β) : bt false x y = y := rfl
theorem lt1_eq {α β : Type} (t : α) (f : α → Option β) : lt1 t f = f t := rfl
/-- the length of a frame in beats -/
def fl (n : Nat) : Nat := 16 * (6 + n % 4 + n / 8 % 2) + (if n / 4 % 2 = 0 then 16 else if n % 4 = 0 then 24 else 32)
theorem fl_le (n : Nat) : 112 ≤ fl n ∧ fl n ≤ 192 := by
  unfold fl
  split
  · omega
  · split <;> omega
theorem sh_fl : ∀ n : Fin 256, F_X7_beats (nI n.val) = some (nI (fl n.val)) ∧ F_X9_frameOf (nI n.val) = some (nI (fl n.val)) := by decide +kernel
theorem sh_beats {n : Nat} (h : n < 256) : F_X7_beats (nI n) = some (nI (fl n)) := (sh_fl ⟨n, h⟩).1
theorem sh_frame {n : Nat} (h : n < 256) : F_X9_frameOf (nI n) = some (nI (fl n)) := (sh_fl ⟨n, h⟩).2
def hp (c : Int32) : Bool := !decide (c &&& 8 = 0)
theorem hp_c (c : Int32) : F_X7_hasParity c = some (hp c) := by
  unfold F_X7_hasParity hp
  by_cases h : c &&& 8 = 0
  · rw [if_pos h, decide_eq_true h]; rfl
  · rw [if_neg h, decide_eq_false h]; rfl
theorem hp_m (c : Int32) : F_X9_hasParity c = some (hp c) := hp_c c
theorem par_eq (c ch : Int32) : ∃ b, F_X7_parityIsHigh c ch = some b ∧ F_X9_parityOf c ch = some (bI b) := by
  obtain ⟨y, hy⟩ : ∃ y, F_J6_bitCount_0f7a4 (ch &&& (((1 : Int32) <<< ((5 + (c &&& 3)) &&& 31)) - 1)) = some y := ⟨_, rfl⟩
  unfold F_X7_parityIsHigh F_X9_parityOf F_X7_parityIsHigh_12 F_X7_parityIsHigh_55 F_X7_dataBits F_X9_bitsOf
  simp only [bd_some, lt1_eq, hy]
  by_cases h4 : c &&& 16 = 0 <;> by_cases h5 : c &&& 32 = 0 <;> rcases and1 y with h1 | h1 <;> simp only [h4, h5, h1, if_true, if_false, bt_true, bt_false] <;> first | exact ⟨_, rfl, rfl⟩ | exact ⟨true, by decide, by decide⟩ | exact ⟨false, by decide, by decide⟩
theorem part_eq (c ch : Int32) (j : Nat) (hj : j < 2 ^ 31) : ∃ b, F_X7_pieceIsHigh c ch (nI j) = some b ∧ F_X9_partOf c ch (nI j) = some b := by
  obtain ⟨b, hb1, hb2⟩ := par_eq c ch
  unfold F_X7_pieceIsHigh F_X9_partOf F_X7_dataBits F_X9_bitsOf
  simp only [bd_some, hp_c, hp_m, hb1, hb2]
  by_cases h0 : j = 0
  · subst h0
    rw [if_neg (show ¬ (0 : Int32) < nI 0 by decide), if_pos (show nI 0 = 0 from rfl)]
    exact ⟨false, rfl, rfl⟩
  · rw [if_pos (show (0 : Int32) < nI j from nI_lt (a := 0) (by omega) hj), if_neg (nI_ne0 (by omega) hj)]
    by_cases h1 : 5 + (c &&& 3) < nI j
    · rw [if_pos h1, if_pos h1]
      obtain ⟨q, hq, eq⟩ := pk_andE c (m := 3) 2 (by decide)
      have e5 : (5 : Int32) + (c &&& 3) = nI (5 + q) := by rw [eq]; exact nI_add 5 q
      have e6 : (5 : Int32) + (c &&& 3) + 1 = nI (5 + q + 1) := by rw [e5]; exact nI_1 _
      rw [e6]
      rw [e5] at h1
      have h1' : 5 + q < j := (nI_ltI (by omega) hj).mp h1
      by_cases h2 : j = 5 + q + 1
      · rw [if_pos (by rw [h2]), if_neg (by rw [h2]; exact nI_nlt (Nat.le_refl _) (by omega))]
        cases hpc : hp c
        · exact ⟨true, rfl, rfl⟩
        · refine ⟨b, rfl, ?_⟩
          simp only [bt_true]
          cases b <;> rfl
      · rw [if_neg (fun e => h2 ((nI_eq hj (by omega)).mp e)), if_pos (nI_lt (by omega) hj)]
        exact ⟨true, rfl, rfl⟩
    · rw [if_neg h1, if_neg h1]
      rcases and1 (ch >>> ((nI j - 1) &&& 31)) with h3 | h3
      · rw [h3]; exact ⟨false, rfl, rfl⟩
      · rw [h3]; exact ⟨true, rfl, rfl⟩
