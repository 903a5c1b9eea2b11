/-! PURE: the line that comes in and its wave, on both sides. -/
def RW (high lineIn : Bool) (head size : Int32) (a : Nat → Int32) (many : Int32) (wh : Nat → Bool) (wb : Nat → Int32) : Prop :=
  high = lineIn ∧ ∃ (k : Nat) (lv : Nat → Bool) (bs : Nat → Nat), RG 500 head size a k (fun i => cv (lv i) (bs i)) ∧ many = nI k ∧ (∀ i, i < k → wh i = lv i ∧ wb i = nI (bs i) ∧ 1 ≤ bs i ∧ bs i ≤ 4000)
theorem com_loop : ∀ (fuel j K : Nat) (lin : Bool) (wh : Nat → Bool) (wb : Nat → Int32), K < 500 → j ≤ K → K - j < fuel → ∃ wh' wb', F_X9_come_50 500 500 fuel (nI j) (nI K) lin wh wb = some (nI K, lin, wh', wb') ∧ (∀ i, i < j → wh' i = wh i ∧ wb' i = wb i) ∧ (∀ i, j ≤ i → i < K → wh' i = wh (i + 1) ∧ wb' i = wb (i + 1)) := by
  intro fuel
  induction fuel with
  | zero => intro j K lin wh wb h1 h2 h3; omega
  | succ n ih =>
    intro j K lin wh wb h1 h2 h3
    show ∃ wh' wb', F_X9_come_50_s (F_X9_come_50 500 500 n) 500 500 (nI j) (nI K) lin wh wb = _ ∧ _
    unfold F_X9_come_50_s
    by_cases hj : j = K
    · subst hj
      rw [if_pos (nI_le (Nat.le_refl j) (by omega))]
      exact ⟨wh, wb, rfl, fun i _ => ⟨rfl, rfl⟩, fun i h4 h5 => by omega⟩
    · rw [if_neg (nI_ge (by omega) (by omega)), nI_1, gd_t (inR_nI (by omega) (by omega)), gd_t (inR_nI (by omega) (by omega)), gd_t (inR_nI (by omega) (by omega)), gd_t (inR_nI (by omega) (by omega)), lt1_eq, nI_clamp (by omega), nI_clamp (by omega)]
      obtain ⟨wh', wb', e1, e2, e3⟩ := ih (j + 1) K lin (va_up wh j (wh (j + 1))) (upd wb j (wb (j + 1))) h1 (by omega) (by omega)
      have hv : ∀ i, i ≠ j → va_up wh j (wh (j + 1)) i = wh i := fun i hi => by unfold va_up; rw [if_neg hi]
      have hv2 : va_up wh j (wh (j + 1)) j = wh (j + 1) := by unfold va_up; rw [if_pos rfl]
      refine ⟨wh', wb', e1, fun i hi => ?_, fun i h4 h5 => ?_⟩
      · obtain ⟨q1, q2⟩ := e2 i (by omega)
        exact ⟨q1.trans (hv i (by omega)), q2.trans (pk_un (by omega))⟩
      · by_cases hi : i = j
        · subst hi
          obtain ⟨q1, q2⟩ := e2 i (by omega)
          exact ⟨q1.trans hv2, q2.trans pk_us⟩
        · obtain ⟨q1, q2⟩ := e3 i (by omega) h5
          exact ⟨q1.trans (hv (i + 1) (by omega)), q2.trans (pk_un (by omega))⟩
theorem cv_lt4 {b : Bool} {c : Nat} (h : c < 2 ^ 29) : (cv b c < 4) ↔ c ≤ 1 := by
  show nI (2 * c + (if b then 1 else 0)) < nI 4 ↔ c ≤ 1
  rw [nI_ltI (by cases b <;> simp <;> omega) (by omega)]
  cases b <;> simp <;> omega
theorem cv_sub2 {b : Bool} {c : Nat} (h : 1 ≤ c) : cv b c - 2 = cv b (c - 1) := by
  show nI (2 * c + (if b then 1 else 0)) - nI 2 = nI (2 * (c - 1) + (if b then 1 else 0))
  rw [pk_sub (by omega)]
  congr 1
  omega
theorem sim_come {high lineIn : Bool} {head size many : Int32} {a : Nat → Int32} {wh : Nat → Bool} {wb : Nat → Int32} (h : RW high lineIn head size a many wh wb) : ∃ uc um, F_X1_next high head size 500 a = some uc ∧ F_X9_come many lineIn 500 wh 500 wb = some um ∧ uc.1 = um.2.1 ∧ RW uc.2.1 um.2.1 uc.2.2.1 uc.2.2.2.1 uc.2.2.2.2 um.1 um.2.2.1 um.2.2.2 := by
  obtain ⟨rfl, k, lv, bs, hR, rfl, hm⟩ := h
  have hk := hR.le
  unfold F_X1_next F_X9_come
  rw [rg_empty hR (by omega), bd_some]
  by_cases hk0 : k = 0
  · subst hk0
    rw [decide_eq_true rfl, bt_true, if_pos nI_0]
    exact ⟨_, _, rfl, rfl, rfl, rfl, 0, lv, bs, hR, rfl, hm⟩
  · rw [decide_eq_false hk0, bt_false, if_neg (nI_ne0 (by omega) (by omega))]
    have hf := rg_first hR (by omega)
    rw [if_neg hk0] at hf
    obtain ⟨m1, m2, m3, m4⟩ := hm 0 (by omega)
    have hz : (0 : Int32).toNatClampNeg = 0 := rfl
    rw [hf, bd_some, cv_and (by omega), hz, gd_t (show inR 0 500 = true from by decide), gd_t (show inR 0 500 = true from by decide), gd_t (show inR 0 500 = true from by decide), gd_t (show inR 0 500 = true from by decide), pk_us, m1, m2]
    have h30 : (if bI (lv 0) = 0 then F_X1_next_30 500 false (cv (lv 0) (bs 0)) high head size a else F_X1_next_30 500 true (cv (lv 0) (bs 0)) high head size a) = F_X1_next_30 500 (lv 0) (cv (lv 0) (bs 0)) high head size a := by cases lv 0 <;> rfl
    rw [h30]
    obtain ⟨c, hc⟩ : ∃ c, bs 0 = c + 1 := ⟨bs 0 - 1, by omega⟩
    unfold F_X1_next_30
    by_cases h1 : c = 0
    · subst h1
      obtain ⟨u, e1, r1⟩ := rg_drop hR (by omega) (by omega)
      obtain ⟨wh', wb', l1, l2, l3⟩ := com_loop 100000 0 (k - 1) (lv 0) wh (upd wb 0 (nI (bs 0) - 1)) (by omega) (by omega) (by omega)
      obtain ⟨j, rfl⟩ : ∃ j, k = j + 1 := ⟨k - 1, by omega⟩
      rw [if_pos ((cv_lt4 (by omega)).mpr (by omega)), e1, bd_some, if_pos (by rw [hc, nI_pred]; exact nI_le (b := 0) (Nat.le_refl 0) (by omega)), lt1_eq, nI_pred]
      refine ⟨_, _, rfl, l1, rfl, rfl, j, fun i => lv (i + 1), fun i => bs (i + 1), r1, rfl, fun i hi => ?_⟩
      obtain ⟨q1, q2⟩ := l3 i (by omega) hi
      obtain ⟨z1, z2, z3, z4⟩ := hm (i + 1) (by omega)
      exact ⟨q1.trans z1, (q2.trans (pk_un (by omega))).trans z2, z3, z4⟩
    · obtain ⟨a', e1, r1⟩ := rg_setFirst hR (by omega) (by omega) (cv (lv 0) (bs 0 - 1))
      rw [if_neg (fun q => by have := (cv_lt4 (by omega)).mp q; omega), cv_sub2 (by omega), e1, bd_some, if_neg (by rw [hc, nI_pred]; exact nI_nle (by omega) (by omega))]
      refine ⟨_, _, rfl, rfl, rfl, rfl, k, lv, fun i => if i = 0 then bs 0 - 1 else bs i, r1.congr (fun i hi => ?_), rfl, fun i hi => ?_⟩
      · by_cases hi0 : i = 0
        · subst hi0
          rw [pk_us]
          dsimp only
          rw [if_pos rfl]
        · rw [pk_un hi0]
          dsimp only
          rw [if_neg hi0]
      · obtain ⟨z1, z2, z3, z4⟩ := hm i hi
        refine ⟨z1, ?_⟩
        by_cases hi0 : i = 0
        · subst hi0
          dsimp only
          rw [pk_us, if_pos rfl, hc, nI_pred]
          exact ⟨rfl, by omega, by omega⟩
        · dsimp only
          rw [pk_un hi0, if_neg hi0]
          exact ⟨z2, z3, z4⟩
