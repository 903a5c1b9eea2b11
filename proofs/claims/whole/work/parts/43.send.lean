/-! PURE: the sending row and the sender, on both sides. -/
def RS (rowsOn : Bool) (head size : Int32) (a : Nat → Int32) (many : Int32) (w : Nat → Int32) : Prop := ∃ (k : Nat) (g : Nat → Int32), RG 16 head size a k g ∧ many = nI k ∧ (∀ i, i < k → w i = g i) ∧ (rowsOn = false → k ≤ 1)
def RN (cc cch cb : Int32) (busy sends : Bool) (sch sf sb : Int32) : Prop := busy = sends ∧ (busy = true → ∃ n t : Nat, n < 256 ∧ cc = nI n ∧ sf = nI n ∧ cch = sch ∧ cb = nI t ∧ sb = nI t ∧ t < fl n)
theorem inR_nI {i n : Nat} (h : i < n) (hn : n ≤ 1000) : inR (nI i) n = true := inR_of (vp_in_nI h (by omega))
theorem snd_loop (form : Int32) : ∀ (fuel j K : Nat) (e sends : Bool) (ch sf sb : Int32) (sh : Bool) (w : Nat → Int32), K < 16 → j ≤ K → K - j < fuel → ∃ w', F_X9_send_36 form 16 fuel (nI j) (nI K) e sends ch sf sb sh w = F_X9_send_76 form 16 (nI K) (if K = 0 then true else e) sends ch sf sb sh w' ∧ (∀ i, i < j → w' i = w i) ∧ (∀ i, j ≤ i → i < K → w' i = w (i + 1)) := by
  intro fuel
  induction fuel with
  | zero => intro j K e sends ch sf sb sh w h1 h2 h3; omega
  | succ n ih =>
    intro j K e sends ch sf sb sh w h1 h2 h3
    show ∃ w', F_X9_send_36_s (F_X9_send_36 form 16 n) form 16 (nI j) (nI K) e sends ch sf sb sh w = _ ∧ _
    unfold F_X9_send_36_s
    by_cases hj : j = K
    · subst hj
      rw [if_pos (nI_le (Nat.le_refl j) (by omega))]
      refine ⟨w, ?_, fun i _ => rfl, fun i h4 h5 => by omega⟩
      by_cases hK : j = 0
      · rw [if_pos hK, if_pos (by rw [hK]; rfl)]
      · rw [if_neg hK, if_neg (nI_ne0 (by omega) (by omega))]
    · rw [if_neg (nI_ge (by omega) (by omega)), nI_1, gd_t (inR_nI (by omega) (by omega)), gd_t (inR_nI (by omega) (by omega)), lt1_eq, nI_clamp (by omega), nI_clamp (by omega)]
      obtain ⟨w', e1, e2, e3⟩ := ih (j + 1) K e sends ch sf sb sh (upd w j (w (j + 1))) h1 (by omega) (by omega)
      refine ⟨w', e1, fun i hi => ?_, fun i h4 h5 => ?_⟩
      · rw [e2 i (by omega), pk_un (by omega)]
      · by_cases hi : i = j
        · subst hi
          rw [e2 i (by omega), pk_us]
        · rw [e3 i (by omega) h5, pk_un (by omega)]
