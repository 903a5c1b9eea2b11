/-! PURE: what a Ring holds: k numbers g 0 .. g (k-1). -/
def rx (n hd i : Nat) : Nat := if hd + i < n then hd + i else hd + i - n
theorem rx_lt {n hd i : Nat} (h1 : hd < n) (h2 : i ≤ n) : rx n hd i < n ∨ i = n := by
  unfold rx
  by_cases h : hd + i < n
  · rw [if_pos h]; exact Or.inl h
  · rw [if_neg h]; omega
theorem rx_lt' {n hd i : Nat} (h1 : hd < n) (h2 : i < n) : rx n hd i < n := by
  unfold rx
  by_cases h : hd + i < n
  · rw [if_pos h]; exact h
  · rw [if_neg h]; omega
theorem rx_inj {n hd i j : Nat} (h1 : hd < n) (h2 : i < n) (h3 : j < n) (h : rx n hd i = rx n hd j) : i = j := by
  unfold rx at h
  by_cases a : hd + i < n <;> by_cases b : hd + j < n
  · rw [if_pos a, if_pos b] at h; omega
  · rw [if_pos a, if_neg b] at h; omega
  · rw [if_neg a, if_pos b] at h; omega
  · rw [if_neg a, if_neg b] at h; omega
theorem rx_rx {n hd i : Nat} (h1 : hd < n) (h2 : i + 1 < n) : rx n (rx n hd 1) i = rx n hd (i + 1) := by
  unfold rx
  by_cases a : hd + 1 < n
  · rw [if_pos a]
    by_cases b : hd + 1 + i < n
    · rw [if_pos b, if_pos (by omega)]; omega
    · rw [if_neg b, if_neg (by omega)]; omega
  · rw [if_neg a]
    rw [if_pos (by omega), if_neg (by omega)]; omega
def RG (n : Nat) (head size : Int32) (a : Nat → Int32) (k : Nat) (g : Nat → Int32) : Prop :=
  ∃ hd : Nat, hd < n ∧ head = nI hd ∧ size = nI k ∧ k ≤ n ∧ ∀ i, i < k → a (rx n hd i) = g i
theorem RG.size {n : Nat} {head size : Int32} {a : Nat → Int32} {k : Nat} {g : Nat → Int32} (h : RG n head size a k g) : size = nI k := by
  obtain ⟨hd, h1, h2, h3, h4, h5⟩ := h
  exact h3
theorem RG.le {n : Nat} {head size : Int32} {a : Nat → Int32} {k : Nat} {g : Nat → Int32} (h : RG n head size a k g) : k ≤ n := by
  obtain ⟨hd, h1, h2, h3, h4, h5⟩ := h
  exact h4
theorem RG.congr {n : Nat} {head size : Int32} {a : Nat → Int32} {k : Nat} {g g' : Nat → Int32} (h : RG n head size a k g) (e : ∀ i, i < k → g i = g' i) : RG n head size a k g' := by
  obtain ⟨hd, h1, h2, h3, h4, h5⟩ := h
  exact ⟨hd, h1, h2, h3, h4, fun i hi => (h5 i hi).trans (e i hi)⟩
theorem rg_cell {n hd i : Nat} (hn : n ≤ 1000) (h1 : hd < n) (h2 : i ≤ n) : F_X5_cellOf (nI i) (nI hd) n = some (nI (rx n hd i)) := by
  show (if nI hd + nI i < nI n then some (nI hd + nI i) else some (nI hd + nI i - nI n)) = some (nI (rx n hd i))
  rw [nI_add]
  unfold rx
  by_cases h : hd + i < n
  · rw [if_pos (nI_lt h (by omega)), if_pos h]
  · rw [if_neg (nI_nlt (by omega) (by omega)), if_neg h, pk_sub (by omega)]
theorem rg_at {n : Nat} {head size : Int32} {a : Nat → Int32} {k : Nat} {g : Nat → Int32} (h : RG n head size a k g) (hn : n ≤ 1000) {i : Nat} (hi : i < k) : F_X5_at (nI i) head size n a = some (g i) := by
  obtain ⟨hd, h1, rfl, rfl, h4, h5⟩ := h
  unfold F_X5_at
  rw [rg_cell hn h1 (by omega), bd_some]
  have hr := rx_lt' (n := n) (hd := hd) (i := i) h1 (by omega)
  rw [if_neg (nI_pos (by omega)), if_neg (nI_ge hi (by omega)), if_neg (nI_pos (by omega)), if_neg (show ¬ Int32.ofNat n ≤ nI (rx n hd i) from nI_ge hr (by omega)), gd_t (inR_of (vp_in_nI hr (by omega))), nI_clamp (by omega), h5 i hi]
theorem rg_at0 {n : Nat} {head size : Int32} {a : Nat → Int32} {g : Nat → Int32} (h : RG n head size a 0 g) (hn : n ≤ 1000) : F_X5_at 0 head size n a = some 0 := by
  obtain ⟨hd, h1, rfl, rfl, h4, h5⟩ := h
  show F_X5_at (nI 0) (nI hd) (nI 0) n a = some 0
  unfold F_X5_at
  rw [rg_cell hn h1 (by omega), bd_some, if_neg (nI_pos (by omega)), if_pos (nI_le (Nat.le_refl 0) (by omega))]
theorem rg_first {n : Nat} {head size : Int32} {a : Nat → Int32} {k : Nat} {g : Nat → Int32} (h : RG n head size a k g) (hn : n ≤ 1000) : F_X5_first head size n a = some (if k = 0 then 0 else g 0) := by
  unfold F_X5_first
  by_cases hk : k = 0
  · subst hk
    rw [rg_at0 h hn, bd_some, if_pos rfl]
  · rw [if_neg hk]
    have e := rg_at h hn (i := 0) (by omega)
    rw [nI_0] at e
    rw [e, bd_some]
theorem rg_setAt {n : Nat} {head size : Int32} {a : Nat → Int32} {k : Nat} {g : Nat → Int32} (h : RG n head size a k g) (hn : n ≤ 1000) {i : Nat} (hi : i < k) (v : Int32) : ∃ a', F_X5_setAt (nI i) v head size n a = some a' ∧ RG n head size a' k (upd g i v) := by
  obtain ⟨hd, h1, rfl, rfl, h4, h5⟩ := h
  have hr := rx_lt' (n := n) (hd := hd) (i := i) h1 (by omega)
  refine ⟨upd a (rx n hd i) v, ?_, hd, h1, rfl, rfl, h4, fun j hj => ?_⟩
  · unfold F_X5_setAt
    rw [rg_cell hn h1 (by omega), bd_some, if_neg (nI_pos (by omega)), if_neg (nI_ge hi (by omega)), if_neg (nI_pos (by omega)), if_neg (show ¬ Int32.ofNat n ≤ nI (rx n hd i) from nI_ge hr (by omega)), gd_t (inR_of (vp_in_nI hr (by omega))), nI_clamp (by omega)]
  · by_cases e : j = i
    · subst e
      rw [pk_us, pk_us]
    · rw [pk_un (fun q => e (rx_inj h1 (by omega) (by omega) q)), pk_un e]
      exact h5 j hj
theorem rg_setFirst {n : Nat} {head size : Int32} {a : Nat → Int32} {k : Nat} {g : Nat → Int32} (h : RG n head size a k g) (hn : n ≤ 1000) (hk : 0 < k) (v : Int32) : ∃ a', F_X5_setFirst v head size n a = some a' ∧ RG n head size a' k (upd g 0 v) := by
  obtain ⟨a', e, r⟩ := rg_setAt h hn hk v
  refine ⟨a', ?_, r⟩
  rw [nI_0] at e
  unfold F_X5_setFirst
  rw [e, bd_some]
theorem rg_setFirst0 {n : Nat} {head size : Int32} {a : Nat → Int32} {g : Nat → Int32} (h : RG n head size a 0 g) (hn : n ≤ 1000) (v : Int32) : F_X5_setFirst v head size n a = some a := by
  obtain ⟨hd, h1, rfl, rfl, h4, h5⟩ := h
  show bd (F_X5_setAt (nI 0) v (nI hd) (nI 0) n a) _ = some a
  unfold F_X5_setAt
  rw [rg_cell hn h1 (by omega), bd_some, if_neg (nI_pos (by omega)), if_pos (nI_le (Nat.le_refl 0) (by omega)), bd_some]
theorem rg_add {n : Nat} {head size : Int32} {a : Nat → Int32} {k : Nat} {g : Nat → Int32} (h : RG n head size a k g) (hn : n ≤ 1000) (hk : k < n) (v : Int32) : ∃ u, F_X5_add v head size n a = some u ∧ RG n head u.1 u.2 (k + 1) (upd g k v) := by
  obtain ⟨hd, h1, rfl, rfl, h4, h5⟩ := h
  have h0 : RG n (nI hd) (nI (k + 1)) a (k + 1) (fun i => a (rx n hd i)) := ⟨hd, h1, rfl, rfl, by omega, fun i _ => rfl⟩
  obtain ⟨a', e, r⟩ := rg_setAt h0 hn (i := k) (by omega) v
  refine ⟨(nI (k + 1), a'), ?_, r.congr (fun i hi => ?_)⟩
  · unfold F_X5_add
    rw [if_neg (show ¬ Int32.ofNat n ≤ nI k from nI_ge hk (by omega))]
    show bd (F_X5_setAt (nI k + 1 - 1) v (nI hd) (nI k + 1) n a) _ = _
    rw [nI_1, nI_pred, e, bd_some]
  · by_cases e2 : i = k
    · subst e2; rw [pk_us, pk_us]
    · rw [pk_un e2, pk_un e2]
      exact h5 i (by omega)
theorem rg_addFull {n : Nat} {head size : Int32} {a : Nat → Int32} {g : Nat → Int32} (h : RG n head size a n g) (hn : n ≤ 1000) (v : Int32) : F_X5_add v head size n a = some (size, a) := by
  obtain ⟨hd, h1, rfl, rfl, h4, h5⟩ := h
  unfold F_X5_add
  rw [if_pos (show Int32.ofNat n ≤ nI n from nI_le (Nat.le_refl n) (by omega))]
theorem rg_drop {n : Nat} {head size : Int32} {a : Nat → Int32} {k : Nat} {g : Nat → Int32} (h : RG n head size a k g) (hn : n ≤ 1000) (hk : 0 < k) : ∃ u, F_X5_dropFirst head size n = some u ∧ RG n u.1 u.2 a (k - 1) (fun i => g (i + 1)) := by
  obtain ⟨hd, h1, rfl, rfl, h4, h5⟩ := h
  refine ⟨(nI (rx n hd 1), nI (k - 1)), ?_, rx n hd 1, ?_, rfl, rfl, by omega, fun i hi => ?_⟩
  · unfold F_X5_dropFirst
    rw [if_neg (nI_nle hk (by omega))]
    have e := rg_cell (n := n) (hd := hd) (i := 1) hn h1 (by omega)
    have e1 : (nI 1 : Int32) = 1 := rfl
    rw [e1] at e
    rw [e, bd_some]
    obtain ⟨j, rfl⟩ : ∃ j, k = j + 1 := ⟨k - 1, by omega⟩
    show some (nI (rx n hd 1), nI (j + 1) - 1) = _
    rw [nI_pred]
    rfl
  · rcases rx_lt (n := n) (hd := hd) (i := 1) h1 (by omega) with q | q
    · exact q
    · subst q
      unfold rx
      rw [if_neg (by omega)]
      omega
  · show a (rx n (rx n hd 1) i) = g (i + 1)
    rw [rx_rx h1 (by omega)]
    exact h5 (i + 1) (by omega)
theorem rg_drop0 {n : Nat} {head size : Int32} {a : Nat → Int32} {g : Nat → Int32} (h : RG n head size a 0 g) : F_X5_dropFirst head size n = some (head, size) := by
  obtain ⟨hd, h1, rfl, rfl, h4, h5⟩ := h
  unfold F_X5_dropFirst
  rw [if_pos (show nI 0 ≤ 0 from nI_le (b := 0) (Nat.le_refl 0) (by omega))]
theorem rg_clear (n : Nat) (hn : 0 < n) (a g : Nat → Int32) : RG n 0 0 a 0 g := ⟨0, hn, rfl, rfl, Nat.zero_le n, fun i hi => absurd hi (Nat.not_lt_zero i)⟩
theorem rg_empty {n : Nat} {head size : Int32} {a : Nat → Int32} {k : Nat} {g : Nat → Int32} (h : RG n head size a k g) (hn : n ≤ 1000) : F_X5_isEmpty size = some (decide (k = 0)) := by
  have hs := h.size
  have hl := h.le
  subst hs
  unfold F_X5_isEmpty
  by_cases hk : k = 0
  · subst hk
    rw [if_pos nI_0]
    rfl
  · rw [if_neg (nI_ne0 (by omega) (by omega)), decide_eq_false hk]
