/-! PURE: the divider. -/
def RD (K : Nat) (cd cp md mc : Int32) : Prop := ∃ d : Nat, d < 65536 ∧ cd = nI d ∧ md = nI d ∧ ((d = 0 ∧ ∃ t, mc = nI t ∧ t ≤ K) ∨ (0 < d ∧ ∃ t, t < d ∧ cp = nI t ∧ mc = nI t))
theorem rd_pass {K : Nat} {cd cp md mc : Int32} (h : RD K cd cp md mc) {n : Nat} (hn : n ≤ 60000) : ∃ u, F_X0_pass (nI n) cd cp = some u ∧ ((cd = 0 ∧ u = (0, cp)) ∨ ∃ d t : Nat, 0 < d ∧ d < 65536 ∧ t < d ∧ cd = nI d ∧ cp = nI t ∧ u = (nI ((t + n) / d), nI ((t + n) % d))) := by
  obtain ⟨d, hd, rfl, rfl, h1 | h1⟩ := h
  · obtain ⟨rfl, t, rfl, ht⟩ := h1
    refine ⟨(0, cp), ?_, Or.inl ⟨nI_0, rfl⟩⟩
    unfold F_X0_pass
    rw [if_neg (show ¬ (0 : Int32) < nI 0 by decide)]
  · obtain ⟨h0, t, ht, rfl, rfl⟩ := h1
    refine ⟨(nI ((t + n) / d), nI ((t + n) % d)), ?_, Or.inr ⟨d, t, h0, hd, ht, rfl, rfl, rfl⟩⟩
    unfold F_X0_pass
    rw [if_pos (show (0 : Int32) < nI d from nI_lt (a := 0) h0 (by omega)), lt1_eq, nI_add, gd_t (nI_ne0 h0 (by omega)), lt1_eq, gd_t (nI_ne0 h0 (by omega)), pk_rem (by omega) h0 (by omega), pk_div (by omega) h0 (by omega)]
