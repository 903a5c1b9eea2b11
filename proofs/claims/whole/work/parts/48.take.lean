/-! PURE: register 0 read, on both sides. -/
theorem tak_loop : ∀ (fuel j K : Nat) (c late : Int32) (lu : Bool) (rc mk : Nat → Int32), K < 16 → j ≤ K → K - j < fuel → ∃ rc' mk', F_X9_take_38 16 16 fuel c (nI j) (nI K) lu late rc mk = some (c, nI K, lu, late, rc', mk') ∧ (∀ i, i < j → rc' i = rc i ∧ mk' i = mk i) ∧ (∀ i, j ≤ i → i < K → rc' i = rc (i + 1) ∧ mk' i = mk (i + 1)) := by
  intro fuel
  induction fuel with
  | zero => intro j K c late lu rc mk h1 h2 h3; omega
  | succ n ih =>
    intro j K c late lu rc mk h1 h2 h3
    show ∃ rc' mk', F_X9_take_38_s (F_X9_take_38 16 16 n) 16 16 c (nI j) (nI K) lu late rc mk = _ ∧ _
    unfold F_X9_take_38_s
    by_cases hj : j = K
    · subst hj
      rw [if_pos (nI_le (Nat.le_refl j) (by omega))]
      exact ⟨rc, mk, rfl, fun i _ => ⟨rfl, rfl⟩, fun i h4 h5 => by omega⟩
    · rw [if_neg (nI_ge (by omega) (by omega)), nI_1, gd_t (inR_nI (by omega) (by omega)), gd_t (inR_nI (by omega) (by omega)), gd_t (inR_nI (by omega) (by omega)), gd_t (inR_nI (by omega) (by omega)), lt1_eq, nI_clamp (by omega), nI_clamp (by omega)]
      obtain ⟨rc', mk', e1, e2, e3⟩ := ih (j + 1) K c late lu (upd rc j (rc (j + 1))) (upd mk j (mk (j + 1))) h1 (by omega) (by omega)
      refine ⟨rc', mk', e1, fun i hi => ?_, fun i h4 h5 => ?_⟩
      · obtain ⟨q1, q2⟩ := e2 i (by omega)
        exact ⟨q1.trans (pk_un (by omega)), q2.trans (pk_un (by omega))⟩
      · by_cases hi : i = j
        · subst hi
          obtain ⟨q1, q2⟩ := e2 i (by omega)
          exact ⟨q1.trans pk_us, q2.trans pk_us⟩
        · obtain ⟨q1, q2⟩ := e3 i (by omega) h5
          exact ⟨q1.trans (pk_un (by omega)), q2.trans (pk_un (by omega))⟩
theorem ch_and {c m : Nat} (hc : c < 256) (hm : m < 32) : nI (c + 256 * m) &&& 255 = nI c := by
  have e := pk_andN (n := c + 256 * m) (m := 255) (by omega) 8 (by decide)
  rw [e]
  congr 1
  omega
theorem sim_take {rowsOn lc lm : Bool} {head size many beats quiet late : Int32} {a rc mk : Nat → Int32} (h : RR rowsOn head size a many rc mk) :
    ∃ uc um, F_X8_takeCharacter lc beats quiet head size 16 a = some uc ∧ F_X9_take many lm late 16 rc 16 mk = some um ∧ uc.1 = um.1 ∧ uc.2.1 = false ∧ um.2.2.1 = false ∧ uc.2.2.1 = beats ∧ um.2.2.2.1 = 0 ∧ RR rowsOn uc.2.2.2.1 uc.2.2.2.2 a um.2.1 um.2.2.2.2.1 um.2.2.2.2.2 := by
  obtain ⟨k, cs, ms, hR, rfl, hw, hr⟩ := h
  have hk := hR.le
  unfold F_X8_takeCharacter F_X9_take
  rw [rg_first hR (by omega), bd_some, lt1_eq]
  by_cases hk0 : k = 0
  · subst hk0
    rw [if_pos rfl, if_pos nI_0, rg_drop0 hR, bd_some]
    exact ⟨_, _, rfl, rfl, rfl, rfl, rfl, rfl, rfl, 0, cs, ms, hR, rfl, hw, hr⟩
  · obtain ⟨z1, z2, z3, z4, z5⟩ := hw 0 (by omega)
    obtain ⟨u, e1, r1⟩ := rg_drop hR (by omega) (by omega)
    obtain ⟨rc', mk', l1, l2, l3⟩ := tak_loop 100000 0 (k - 1) (rc 0) 0 false rc mk (by omega) (by omega) (by omega)
    have hz : (0 : Int32).toNatClampNeg = 0 := rfl
    obtain ⟨j, rfl⟩ : ∃ j, k = j + 1 := ⟨k - 1, by omega⟩
    rw [if_neg hk0, if_neg (nI_ne0 (by omega) (by omega)), e1, bd_some, gd_t (show inR 0 16 = true from by decide), lt1_eq, lt1_eq, nI_pred, hz, ch_and z3 z4]
    refine ⟨_, _, rfl, l1, z1.symm, rfl, rfl, rfl, rfl, j, fun i => cs (i + 1), fun i => ms (i + 1), r1, rfl, fun i hi => ?_, fun hf => by have := hr hf; omega⟩
    obtain ⟨q1, q2⟩ := l3 i (by omega) hi
    obtain ⟨y1, y2, y3⟩ := hw (i + 1) (by omega)
    exact ⟨q1.trans y1, q2.trans y2, y3⟩
