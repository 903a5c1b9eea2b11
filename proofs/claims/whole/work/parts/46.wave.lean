/-! PURE: the line that comes in and its wave, on both sides. -/
def RW (high lineIn : Bool) (head size : Int32) (a : Nat → Int32) (many : Int32) (wh : Nat → Bool) (wb : Nat → Int32) : Prop :=
  high = lineIn ∧ ∃ (k : Nat) (lv : Nat → Bool) (bs : Nat → Nat), RG 500 head size a k (fun i => cv (lv i) (bs i)) ∧ many = nI k ∧ (∀ i, i < k → wh i = lv i ∧ wb i = nI (bs i) ∧ 1 ≤ bs i ∧ bs i ≤ 4000)
theorem com_loop : ∀ (fuel j K : Nat) (lin : Bool) (wh : Nat → Bool) (wb : Nat → Int32), K < 500 → j ≤ K → K - j < fuel → ∃ wh' wb', F_X9_come_50 500 500 fuel (nI j) (nI K) lin wh wb = some (nI K, lin, wh', wb') ∧ (∀ i, i < j → wh' i = wh i ∧ wb' i = wb i) ∧ (∀ i, j ≤ i → i < K → wh' i = wh (i + 1) ∧ wb' i = wb (i + 1)) := by
  intro fuel
  induction fuel with
  | zero => intro j K lin wh wb h1 h2 h3; omega
  | succ n ih =>
    intro j K lin wh wb h1 h2 h3
    show ∃ wh' wb', F_X9_come_50_s (F_X9_come_50 500 500 n) 500 500 (nI j) (nI K) lin wh wb = _ ∧ _
    unfold F_X9_come_50_s
    by_cases hj : j = K
    · subst hj
      rw [if_pos (nI_le (Nat.le_refl j) (by omega))]
      exact ⟨wh, wb, rfl, fun i _ => ⟨rfl, rfl⟩, fun i h4 h5 => by omega⟩
    · rw [if_neg (nI_ge (by omega) (by omega)), nI_1, gd_t (inR_nI (by omega) (by omega)), gd_t (inR_nI (by omega) (by omega)), gd_t (inR_nI (by omega) (by omega)), gd_t (inR_nI (by omega) (by omega)), lt1_eq, nI_clamp (by omega), nI_clamp (by omega)]
      obtain ⟨wh', wb', e1, e2, e3⟩ := ih (j + 1) K lin (va_up wh j (wh (j + 1))) (upd wb j (wb (j + 1))) h1 (by omega) (by omega)
      have hv : ∀ i, i ≠ j → va_up wh j (wh (j + 1)) i = wh i := fun i hi => by unfold va_up; rw [if_neg hi]
      have hv2 : va_up wh j (wh (j + 1)) j = wh (j + 1) := by unfold va_up; rw [if_pos rfl]
      refine ⟨wh', wb', e1, fun i hi => ?_, fun i h4 h5 => ?_⟩
      · obtain ⟨q1, q2⟩ := e2 i (by omega)
        exact ⟨q1.trans (hv i (by omega)), q2.trans (pk_un (by omega))⟩
      · by_cases hi : i = j
        · subst hi
          obtain ⟨q1, q2⟩ := e2 i (by omega)
          exact ⟨q1.trans hv2, q2.trans pk_us⟩
        · obtain ⟨q1, q2⟩ := e3 i (by omega) h5
          exact ⟨q1.trans (hv (i + 1) (by omega)), q2.trans (pk_un (by omega))⟩
theorem cv_lt4 {b : Bool} {c : Nat} (h : c < 2 ^ 29) : (cv b c < 4) ↔ c ≤ 1 := by
  show nI (2 * c + (if b then 1 else 0)) < nI 4 ↔ c ≤ 1
  rw [nI_ltI (by cases b <;> simp <;> omega) (by omega)]
  cases b <;> simp <;> omega
theorem cv_sub2 {b : Bool} {c : Nat} (h : 1 ≤ c) : cv b c - 2 = cv b (c - 1) := by
  show nI (2 * c + (if b then 1 else 0)) - nI 2 = nI (2 * (c - 1) + (if b then 1 else 0))
  rw [pk_sub (by omega)]
  congr 1
  omega
