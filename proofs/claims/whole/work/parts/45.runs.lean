/-! PURE: the line that goes out and its runs, on both sides. -/
def cv (b : Bool) (c : Nat) : Int32 := nI (2 * c + (if b then 1 else 0))
def RU (B : Nat) (inAll head size : Int32) (a : Nat → Int32) (runs : Int32) (rh : Nat → Bool) (rb : Nat → Int32) (out : Bool) : Prop :=
  ∃ (t k : Nat) (lv : Nat → Bool) (bs : Nat → Nat), k ≤ t ∧ k ≤ 40 ∧ (k < 40 → k = t) ∧ RG 40 head size a k (fun j => cv (lv (t - k + j)) (bs (t - k + j))) ∧ inAll = nI t ∧ runs = nI t ∧ (∀ r, t - k ≤ r → r < t → rh (r % 40) = lv r ∧ rb (r % 40) = nI (bs r)) ∧ (out = if t = 0 then true else lv (t - 1)) ∧ t ≤ B ∧ (∀ r, r < t → 1 ≤ bs r ∧ bs r ≤ B)
theorem cv_and {b : Bool} {c : Nat} (h : c < 2 ^ 29) : cv b c &&& 1 = bI b := by
  have e := pk_andN (n := 2 * c + (if b then 1 else 0)) (m := 1) (by cases b <;> simp <;> omega) 1 (by decide)
  show nI (2 * c + (if b then 1 else 0)) &&& 1 = bI b
  rw [e]
  cases b
  · rw [show (2 * c + (if false = true then 1 else 0)) % 2 ^ 1 = 0 by simp]; rfl
  · rw [show (2 * c + (if true = true then 1 else 0)) % 2 ^ 1 = 1 by simp]; rfl
theorem cv_shr {b : Bool} {c : Nat} (h : c < 2 ^ 29) : cv b c >>> ((1 : Int32) &&& 31) = nI c := by
  have e := pk_shrN (n := 2 * c + (if b then 1 else 0)) (by cases b <;> simp <;> omega) ((1 : Int32) &&& 31) 1 (by decide)
  show nI (2 * c + (if b then 1 else 0)) >>> ((1 : Int32) &&& 31) = nI c
  rw [e]
  congr 1
  cases b <;> simp <;> omega
theorem cv_add2 (b : Bool) (c : Nat) : cv b c + 2 = cv b (c + 1) := by
  show nI (2 * c + (if b then 1 else 0)) + nI 2 = nI (2 * (c + 1) + (if b then 1 else 0))
  rw [nI_add]
  congr 1
  omega
theorem run_end {n : Nat} {head size : Int32} {a : Nat → Int32} {k : Nat} {g : Nat → Int32} (h : RG n head size a k g) (hn : n ≤ 1000) {i : Nat} (hi : i < k) : F_X2_fromEnd (nI i) head size n a = some (g (k - 1 - i)) := by
  have hs := h.size
  have hl := h.le
  unfold F_X2_fromEnd F_X5_size
  rw [bd_some]
  have e : size - 1 - nI i = nI (k - 1 - i) := by
    rw [hs]
    obtain ⟨j, rfl⟩ : ∃ j, k = j + 1 := ⟨k - 1, by omega⟩
    rw [nI_pred, pk_sub (by omega)]
    rfl
  rw [e, rg_at h hn (by omega), bd_some]
theorem run_new {head size : Int32} {a : Nat → Int32} {t k : Nat} {lv : Nat → Bool} {bs : Nat → Nat} (hkt : k ≤ t) (hk40 : k ≤ 40) (hk : k < 40 → k = t) (hR : RG 40 head size a k (fun j => cv (lv (t - k + j)) (bs (t - k + j)))) (p : Bool) :
    ∃ uc k', F_X2_append_43 40 p (nI t) head size a = some uc ∧ uc.1 = nI (t + 1) ∧ 1 ≤ k' ∧ k' ≤ k + 1 ∧ k' ≤ 40 ∧ (k' < 40 → k' = t + 1) ∧ RG 40 uc.2.1 uc.2.2.1 uc.2.2.2 k' (fun j => cv (if t + 1 - k' + j = t then p else lv (t + 1 - k' + j)) (if t + 1 - k' + j = t then 1 else bs (t + 1 - k' + j))) := by
  have h60 : ∀ (head size : Int32), F_X2_append_60 40 p (nI t) head size a = F_X2_append_73 40 (cv p 1) (nI t) head size a := fun head size => by cases p <;> rfl
  have hs := hR.size
  unfold F_X2_append_43 F_X5_room
  rw [bd_some, hs]
  by_cases h40 : k = 40
  · subst h40
    obtain ⟨u, e1, r1⟩ := rg_drop hR (by omega) (by omega)
    obtain ⟨v, e2, r2⟩ := rg_add r1 (by omega) (by omega) (cv p 1)
    refine ⟨(nI (t + 1), u.1, v.1, v.2), 40, ?_, rfl, by omega, by omega, by omega, fun h => by omega, r2.congr (fun j hj => ?_)⟩
    · rw [if_pos (show Int32.ofNat 40 - nI 40 = 0 by decide), ← hs, e1, bd_some, h60]
      unfold F_X2_append_73
      rw [e2, bd_some, lt1_eq, nI_1]
    · by_cases hj : j = 39
      · subst hj
        show upd _ 39 (cv p 1) 39 = _
        rw [pk_us, if_pos (by omega), if_pos (by omega)]
      · rw [pk_un (show j ≠ 40 - 1 from hj), if_neg (by omega), if_neg (by omega)]
        show cv (lv (t - 40 + (j + 1))) (bs (t - 40 + (j + 1))) = _
        rw [show t - 40 + (j + 1) = t + 1 - 40 + j by omega]
  · have hkt' := hk (by omega)
    subst hkt'
    obtain ⟨v, e2, r2⟩ := rg_add hR (by omega) (by omega) (cv p 1)
    refine ⟨(nI (k + 1), head, v.1, v.2), k + 1, ?_, rfl, by omega, by omega, by omega, fun h => rfl, r2.congr (fun j hj => ?_)⟩
    · rw [if_neg (show ¬ Int32.ofNat 40 - nI k = 0 by
        show ¬ nI 40 - nI k = 0
        rw [pk_sub (by omega)]
        exact nI_ne0 (by omega) (by omega)), h60]
      unfold F_X2_append_73
      rw [hs] at e2
      rw [e2, bd_some, lt1_eq, nI_1]
    · by_cases hj : j = k
      · subst hj
        rw [pk_us, if_pos (by omega), if_pos (by omega)]
      · rw [pk_un hj, if_neg (by omega), if_neg (by omega)]
        show cv (lv (k - k + j)) (bs (k - k + j)) = _
        rw [show k - k + j = k + 1 - (k + 1) + j by omega]
theorem say_new (t : Nat) (ht : t < 2 ^ 29) (p o : Bool) (rh : Nat → Bool) (rb : Nat → Int32) : F_X9_say_49 40 40 p o (nI t) rh rb = some (o, nI (t + 1), va_up rh (t % 40) p, upd rb (t % 40) 1) := by
  unfold F_X9_say_49
  have e : nI t - nI t / 40 * 40 = nI (t % 40) := pk_rem (a := t) (d := 40) (by omega) (by omega) (by omega)
  rw [e, gd_t (inR_nI (by omega) (by omega)), gd_t (inR_nI (by omega) (by omega)), lt1_eq, nI_1, nI_clamp (by omega)]
theorem bI_inj {a b : Bool} (h : bI a = bI b) : a = b := by
  cases a <;> cases b <;> first | rfl | exact absurd h (by decide)
theorem sim_say {B : Nat} (hB : B < 2 ^ 28) {inAll head size runs : Int32} {a : Nat → Int32} {rh : Nat → Bool} {rb : Nat → Int32} {out : Bool} (p : Bool) (h : RU B inAll head size a runs rh rb out) : ∃ uc um, F_X2_append p inAll head size 40 a = some uc ∧ F_X9_say p out runs 40 rh 40 rb = some um ∧ RU (B + 1) uc.1 uc.2.1 uc.2.2.1 uc.2.2.2 um.2.1 um.2.2.1 um.2.2.2 um.1 := by
  obtain ⟨t, k, lv, bs, hkt, hk40, hk, hR, rfl, rfl, hm, rfl, htB, hbs⟩ := h
  have hnew : ∃ uc um, F_X2_append_43 40 p (nI t) head size a = some uc ∧ F_X9_say_49 40 40 p p (nI t) rh rb = some um ∧ RU (B + 1) uc.1 uc.2.1 uc.2.2.1 uc.2.2.2 um.2.1 um.2.2.1 um.2.2.2 um.1 := by
    obtain ⟨uc, k', e1, e2, g1, g2, g3, g4, g5⟩ := run_new hkt hk40 hk hR p
    refine ⟨uc, _, e1, say_new t (by omega) p p rh rb, t + 1, k', fun r => if r = t then p else lv r, fun r => if r = t then 1 else bs r, by omega, g3, g4, g5, e2, rfl, fun r h1 h2 => ?_, ?_, by omega, fun r h1 => ?_⟩
    · by_cases hr : r = t
      · subst hr
        refine ⟨?_, ?_⟩
        · show va_up rh (r % 40) p (r % 40) = _
          try dsimp only
          rw [if_pos rfl]
          unfold va_up
          rw [if_pos rfl]
        · show upd rb (r % 40) 1 (r % 40) = _
          try dsimp only
          rw [pk_us, if_pos rfl]
          rfl
      · have hne : r % 40 ≠ t % 40 := by omega
        obtain ⟨q1, q2⟩ := hm r (by omega) (by omega)
        refine ⟨?_, ?_⟩
        · show va_up rh (t % 40) p (r % 40) = _
          try dsimp only
          rw [if_neg hr]
          unfold va_up
          rw [if_neg hne]
          exact q1
        · show upd rb (t % 40) 1 (r % 40) = _
          try dsimp only
          rw [pk_un hne, if_neg hr]
          exact q2
    · show p = _
      try dsimp only
      rw [if_neg (by omega), if_pos (by omega)]
    · try dsimp only
      by_cases hr : r = t
      · rw [if_pos hr]; omega
      · rw [if_neg hr]
        have := hbs r (by omega)
        omega
  unfold F_X2_append F_X9_say
  rw [rg_empty hR (by omega), bd_some]
  by_cases hk0 : k = 0
  · have ht0 : t = 0 := by have := hk (by omega); omega
    subst ht0
    rw [decide_eq_true hk0, bt_true, if_pos (show nI 0 ≤ 0 from nI_le (b := 0) (Nat.le_refl 0) (by omega))]
    exact hnew
  · rw [decide_eq_false hk0, bt_false, if_neg (nI_nle (by omega) (by omega))]
    obtain ⟨j, rfl⟩ : ∃ j, t = j + 1 := ⟨t - 1, by omega⟩
    have er : nI (j + 1) - 1 - (nI (j + 1) - 1) / 40 * 40 = nI (j % 40) := by
      rw [nI_pred]
      exact pk_rem (a := j) (d := 40) (by omega) (by omega) (by omega)
    rw [er, gd_t (inR_nI (by omega) (by omega)), nI_clamp (by omega)]
    obtain ⟨q1, q2⟩ := hm j (by omega) (by omega)
    have hend := run_end hR (by omega) (i := 0) (by omega)
    have hidx : j + 1 - k + (k - 1 - 0) = j := by omega
    have hbj := hbs j (by omega)
    simp only [hidx] at hend
    rw [nI_0] at hend
    unfold F_X2_runIsHigh F_X5_size
    rw [hend, bd_some, cv_and (by omega), q1]
    have hbd : (if bI (lv j) = 0 then some false else some true) = some (lv j) := by cases lv j <;> rfl
    rw [hbd, bd_some]
    by_cases hp : bI (lv j) = bI p
    · have hp' := bI_inj hp
      subst hp'
      rw [if_pos rfl, if_pos rfl, bd_some, bd_some, gd_t (inR_nI (by omega) (by omega)), gd_t (inR_nI (by omega) (by omega)), cv_add2]
      have hs := hR.size
      obtain ⟨a', e1, r1⟩ := rg_setAt hR (by omega) (i := k - 1) (by omega) (cv (lv j) (bs j + 1))
      have es : size - 1 = nI (k - 1) := by
        rw [hs]
        obtain ⟨i, rfl⟩ : ∃ i, k = i + 1 := ⟨k - 1, by omega⟩
        rw [nI_pred]
        rfl
      rw [es, e1, bd_some]
      refine ⟨_, _, rfl, rfl, j + 1, k, lv, fun r => if r = j then bs j + 1 else bs r, hkt, hk40, hk, r1.congr (fun i hi => ?_), rfl, rfl, fun r h1 h2 => ?_, ?_, by omega, fun r h1 => ?_⟩
      · try dsimp only
        by_cases hi2 : i = k - 1
        · subst hi2
          rw [pk_us, if_pos (by omega), show j + 1 - k + (k - 1) = j by omega]
        · rw [pk_un hi2, if_neg (by omega)]
      · obtain ⟨z1, z2⟩ := hm r h1 h2
        refine ⟨z1, ?_⟩
        by_cases hr : r = j
        · subst hr
          show upd rb (r % 40) (rb (r % 40) + 1) (r % 40) = _
          try dsimp only
          rw [pk_us, z2, if_pos rfl, nI_1]
        · have hne : r % 40 ≠ j % 40 := by omega
          show upd rb (j % 40) (rb (j % 40) + 1) (r % 40) = _
          try dsimp only
          rw [pk_un hne, if_neg hr]
          exact z2
      · show lv j = _
        try dsimp only
        rw [if_neg (by omega)]
        rfl
      · try dsimp only
        by_cases hr : r = j
        · rw [if_pos hr]; omega
        · rw [if_neg hr]
          have := hbs r h1
          omega
    · rw [if_neg hp, if_neg hp]
      exact hnew
