/-! PURE: the received row, on both sides. -/
def RR (rowsOn : Bool) (head size : Int32) (a : Nat → Int32) (many : Int32) (rc mk : Nat → Int32) : Prop :=
  ∃ (k : Nat) (cs ms : Nat → Nat), RG 16 head size a k (fun i => nI (cs i + 256 * ms i)) ∧ many = nI k ∧ (∀ i, i < k → rc i = nI (cs i) ∧ mk i = nI (ms i) ∧ cs i < 256 ∧ ms i < 32 ∧ ms i % 4 = 0) ∧ (rowsOn = false → k ≤ 1)
theorem put29 {k : Nat} (hk : k < 16) (r : Bool) (c m : Int32) (o : Bool) (late : Int32) (rc mk : Nat → Int32) : F_X9_put_29 r 16 16 c m (nI k) o late rc mk = some (nI (k + 1), o, -1, upd rc k c, upd mk k m) := by
  unfold F_X9_put_29
  rw [gd_t (inR_nI (by omega) (by omega)), gd_t (inR_nI (by omega) (by omega)), lt1_eq, nI_1, nI_clamp (by omega)]
theorem sim_put {rowsOn ov : Bool} {head size many beats quiet late : Int32} {a rc mk : Nat → Int32} {c m : Nat} (hc : c < 256) (hm : m < 32) (hm4 : m % 4 = 0) (h : RR rowsOn head size a many rc mk) :
    ∃ uc um, F_X8_addReceived (nI (c + 256 * m)) rowsOn ov beats quiet head size 16 a = some uc ∧ F_X9_put (nI c) (nI m) rowsOn many ov late 16 rc 16 mk = some um ∧ uc.1 = um.2.1 ∧ uc.2.1 = beats ∧ RR rowsOn head uc.2.2.1 uc.2.2.2 um.1 um.2.2.2.1 um.2.2.2.2 ∧ (um.2.2.1 = -1 ∨ (um.1 = nI 16 ∧ um.2.2.1 = late)) ∧ ¬ um.1 = 0 := by
  obtain ⟨k, cs, ms, hR, rfl, hw, hr⟩ := h
  have hk := hR.le
  have hs := hR.size
  unfold F_X8_addReceived F_X5_size F_X9_put F_X8_rowRoom F_X9_room
  have hadd : k < 16 → (rowsOn = false → k = 0) → ∃ u, F_X5_add (nI (c + 256 * m)) head size 16 a = some u ∧ RR rowsOn head u.1 u.2 (nI (k + 1)) (upd rc k (nI c)) (upd mk k (nI m)) := fun h1 h2 => by
    obtain ⟨u, e1, r1⟩ := rg_add hR (by omega) h1 (nI (c + 256 * m))
    refine ⟨u, e1, k + 1, fun i => if i = k then c else cs i, fun i => if i = k then m else ms i, r1.congr (fun i hi => ?_), rfl, fun i hi => ?_, fun hf => by have := h2 hf; omega⟩
    · by_cases hi2 : i = k
      · subst hi2
        dsimp only
        rw [pk_us, if_pos rfl, if_pos rfl]
      · dsimp only
        rw [pk_un hi2, if_neg hi2, if_neg hi2]
    · by_cases hi2 : i = k
      · subst hi2
        dsimp only
        rw [pk_us, pk_us, if_pos rfl, if_pos rfl]
        exact ⟨rfl, rfl, hc, hm, hm4⟩
      · dsimp only
        rw [pk_un hi2, pk_un hi2, if_neg hi2, if_neg hi2]
        exact hw i (by omega)
  cases rowsOn with
  | true =>
    rw [bd_some, bt_true, bd_some, bt_true, bd_some, hs]
    by_cases h16 : k = 16
    · subst h16
      rw [if_pos (show (16 : Int32) ≤ nI 16 by decide), bt_true, if_pos (show nI 16 = 16 from rfl), ← hs]
      try simp only [bt_true]
      exact ⟨_, _, rfl, rfl, rfl, rfl, ⟨16, cs, ms, hR, hs, hw, hr⟩, Or.inr ⟨rfl, rfl⟩, fun q => absurd (hs.symm.trans q) (by decide)⟩
    · obtain ⟨u, e1, r1⟩ := hadd (by omega) (fun h => by cases h)
      rw [if_neg (show ¬ (16 : Int32) ≤ nI k from nI_ge (b := 16) (by omega) (by omega)), if_neg (show ¬ nI k = 16 from fun q => h16 ((nI_eq (b := 16) (by omega) (by omega)).mp q)), put29 (by omega), ← hs, e1, bd_some]
      exact ⟨_, _, rfl, rfl, rfl, rfl, r1, Or.inl rfl, nI_ne0 (by omega) (by omega)⟩
  | false =>
    rw [bd_some, bt_false, bd_some, bt_false, bd_some, hs]
    by_cases h1 : k = 1
    · subst h1
      rw [if_pos (show (1 : Int32) ≤ nI 1 by decide), bt_false, if_pos (show nI 1 = 1 from rfl), ← hs]
      try simp only [bt_false]
      obtain ⟨a', e1, r1⟩ := rg_setFirst hR (by omega) (by omega) (nI (c + 256 * m))
      have e2 := put29 (k := 0) (by omega) false (nI c) (nI m) true late rc mk
      rw [nI_0] at e2
      rw [e1, bd_some, e2]
      refine ⟨_, _, rfl, rfl, rfl, rfl, ⟨1, fun _ => c, fun _ => m, r1.congr (fun i hi => ?_), rfl, fun i hi => ?_, fun _ => by omega⟩, Or.inl rfl, nI_ne0 (by omega) (by omega)⟩
      · have : i = 0 := by omega
        subst this
        rw [pk_us]
      · have : i = 0 := by omega
        subst this
        refine ⟨?_, ?_, hc, hm, hm4⟩
        · show upd rc 0 (nI c) 0 = nI c
          exact pk_us
        · show upd mk 0 (nI m) 0 = nI m
          exact pk_us
    · have hk0 : k = 0 := by have := hr rfl; omega
      obtain ⟨u, e1, r1⟩ := hadd (by omega) (fun _ => hk0)
      rw [if_neg (show ¬ (1 : Int32) ≤ nI k from nI_ge (b := 1) (by omega) (by omega)), if_neg (show ¬ nI k = 1 from fun q => h1 ((nI_eq (b := 1) (by omega) (by omega)).mp q)), put29 (by omega), ← hs, e1, bd_some]
      exact ⟨_, _, rfl, rfl, rfl, rfl, r1, Or.inl rfl, nI_ne0 (by omega) (by omega)⟩
