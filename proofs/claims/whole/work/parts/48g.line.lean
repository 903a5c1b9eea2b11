/-! PURE: the line's state and the reason, on both sides. -/
def anyf (ms : Nat → Nat) : Nat → Nat → Bool
  | _, 0 => false
  | j, r + 1 => !decide (ms j = 0) || anyf ms (j + 1) r
theorem mk_shr {c m : Nat} (hc : c < 256) (hm : m < 32) : nI (c + 256 * m) >>> ((8 : Int32) &&& 31) = nI m := by
  rw [pk_shrN (n := c + 256 * m) (by omega) ((8 : Int32) &&& 31) 8 (by decide)]
  congr 1
  omega
theorem mk28 : ∀ q : Fin 32, q.val % 4 = 0 → nI q.val &&& 28 = nI q.val := by decide +kernel
theorem ff_c {rowsOn : Bool} {head size many : Int32} {a rc mk : Nat → Int32} (h : RR rowsOn head size a many rc mk) : ∃ k m : Nat, k ≤ 16 ∧ m < 32 ∧ m % 4 = 0 ∧ size = nI k ∧ many = nI k ∧ (k = 0 → m = 0) ∧ (¬ k = 0 → mk 0 = nI m) ∧ F_X8_firstFaults head size 16 a = some (nI m) := by
  obtain ⟨k, cs, ms, hR, rfl, hw, hr⟩ := h
  have hk := hR.le
  unfold F_X8_firstFaults
  rw [rg_first hR (by omega), bd_some]
  by_cases hk0 : k = 0
  · subst hk0
    refine ⟨0, 0, by omega, by omega, rfl, hR.size, rfl, fun _ => rfl, fun q => absurd rfl q, ?_⟩
    rw [if_pos rfl]
    decide
  · obtain ⟨z1, z2, z3, z4, z5⟩ := hw 0 (by omega)
    refine ⟨k, ms 0, hk, z4, z5, hR.size, rfl, fun q => absurd q hk0, fun _ => z2, ?_⟩
    rw [if_neg hk0, mk_shr z3 z4]
    have := mk28 ⟨ms 0, z4⟩ z5
    dsimp only at this
    rw [this]
theorem im_m {k m : Nat} (hk : k ≤ 16) (hm : m < 32) {mk : Nat → Int32} (h0 : k = 0 → m = 0) (h1 : ¬ k = 0 → mk 0 = nI m) : F_X9_isMarked (nI k) 16 mk = some (!decide (m = 0)) := by
  unfold F_X9_isMarked
  by_cases hk0 : k = 0
  · subst hk0
    rw [if_pos (show nI 0 ≤ 0 by decide), h0 rfl]
    rfl
  · rw [if_neg (nI_nle (by omega) (by omega)), gd_t (show inR 0 16 = true from by decide)]
    have hz : (0 : Int32).toNatClampNeg = 0 := rfl
    rw [hz, h1 hk0]
    by_cases hm0 : m = 0
    · subst hm0
      rw [if_pos (show nI 0 = 0 from rfl)]
      rfl
    · rw [if_neg (nI_ne0 (by omega) (by omega)), decide_eq_false hm0]
      rfl
theorem sf_c {head size : Int32} {a : Nat → Int32} {k : Nat} {cs ms : Nat → Nat} (hR : RG 16 head size a k (fun i => nI (cs i + 256 * ms i))) (hw : ∀ i, i < k → cs i < 256 ∧ ms i < 32) : ∀ (r j fuel : Nat), j + r = k → r < fuel → F_X8_someFault_2 head size 16 a fuel (nI j) = some (anyf ms j r) := by
  have hk := hR.le
  have hs := hR.size
  intro r
  induction r with
  | zero =>
    intro j fuel hj hf
    obtain ⟨fuel, rfl⟩ : ∃ x, fuel = x + 1 := ⟨fuel - 1, by omega⟩
    show F_X8_someFault_2_s (F_X8_someFault_2 head size 16 a fuel) head size 16 a (nI j) = _
    unfold F_X8_someFault_2_s F_X5_size
    rw [bd_some, hs, if_pos (nI_le (by omega) (by omega))]
    rfl
  | succ r ih =>
    intro j fuel hj hf
    obtain ⟨fuel, rfl⟩ : ∃ x, fuel = x + 1 := ⟨fuel - 1, by omega⟩
    show F_X8_someFault_2_s (F_X8_someFault_2 head size 16 a fuel) head size 16 a (nI j) = _
    unfold F_X8_someFault_2_s F_X5_size
    obtain ⟨z1, z2⟩ := hw j (by omega)
    rw [bd_some, if_neg (show ¬ size ≤ nI j by rw [hs]; exact nI_ge (by omega) (by omega)), rg_at hR (by omega) (show j < k by omega), bd_some, mk_shr z1 z2]
    show _ = some (!decide (ms j = 0) || anyf ms (j + 1) r)
    by_cases h0 : ms j = 0
    · rw [h0, if_pos (show nI 0 = 0 from rfl), lt1_eq, nI_1, ih (j + 1) fuel (by omega) (by omega)]
      rfl
    · rw [if_neg (nI_ne0 (by omega) (by omega)), decide_eq_false h0]
      rfl
theorem sf_m (rowsOn se ov : Bool) (sm x : Int32) {k : Nat} (hk : k ≤ 16) {ms : Nat → Nat} {mk : Nat → Int32} (hw : ∀ i, i < k → mk i = nI (ms i) ∧ ms i < 32) : ∀ (r j fuel : Nat) (l2 : Bool), j + r = k → r < fuel → F_X9_line_85 rowsOn (nI k) sm se 16 fuel x l2 (nI j) ov mk = F_X9_line_135 rowsOn (nI k) sm se 16 (x ||| (if (rowsOn && (l2 || anyf ms j r)) = true then 128 else 0)) ov mk := by
  intro r
  induction r with
  | zero =>
    intro j fuel l2 hj hf
    obtain ⟨fuel, rfl⟩ : ∃ x, fuel = x + 1 := ⟨fuel - 1, by omega⟩
    show F_X9_line_85_s (F_X9_line_85 rowsOn (nI k) sm se 16 fuel) rowsOn (nI k) sm se 16 x l2 (nI j) ov mk = _
    unfold F_X9_line_85_s
    rw [if_pos (show nI k ≤ nI j from nI_le (by omega) (by omega))]
    show _ = F_X9_line_135 rowsOn (nI k) sm se 16 (x ||| (if (rowsOn && (l2 || false)) = true then 128 else 0)) ov mk
    cases rowsOn <;> cases l2
    · exact (congrArg (fun y => F_X9_line_135 false (nI k) sm se 16 y ov mk) (or_zero32 x)).symm
    · exact (congrArg (fun y => F_X9_line_135 false (nI k) sm se 16 y ov mk) (or_zero32 x)).symm
    · exact (congrArg (fun y => F_X9_line_135 true (nI k) sm se 16 y ov mk) (or_zero32 x)).symm
    · rfl
  | succ r ih =>
    intro j fuel l2 hj hf
    obtain ⟨fuel, rfl⟩ : ∃ x, fuel = x + 1 := ⟨fuel - 1, by omega⟩
    show F_X9_line_85_s (F_X9_line_85 rowsOn (nI k) sm se 16 fuel) rowsOn (nI k) sm se 16 x l2 (nI j) ov mk = _
    unfold F_X9_line_85_s
    obtain ⟨z1, z2⟩ := hw j (by omega)
    rw [if_neg (show ¬ nI k ≤ nI j from nI_ge (by omega) (by omega)), nI_1, lt1_eq, lt1_eq, gd_t (inR_nI (by omega) (by omega)), nI_clamp (by omega), z1]
    show _ = F_X9_line_135 rowsOn (nI k) sm se 16 (x ||| (if (rowsOn && (l2 || (!decide (ms j = 0) || anyf ms (j + 1) r))) = true then 128 else 0)) ov mk
    cases l2 with
    | true =>
      rw [bt_true, ih (j + 1) fuel true (by omega) (by omega), Bool.true_or, Bool.true_or]
    | false =>
      rw [bt_false]
      by_cases h0 : ms j = 0
      · rw [h0, if_pos (show nI 0 = 0 from rfl), ih (j + 1) fuel false (by omega) (by omega)]
        rfl
      · rw [if_neg (nI_ne0 (by omega) (by omega)), ih (j + 1) fuel true (by omega) (by omega), decide_eq_false h0]
        rfl
theorem ln_tab : ∀ (q : Fin 32) (ne ov : Bool) (x y z : Bool), ((((nI q.val ||| bI ne) ||| (if ov = true then 2 else 0)) ||| (if x = true then 32 else 0)) ||| (if y = true then 64 else 0)) ||| (if z = true then 128 else 0) = (((bI ne ||| (if ov = true then 2 else 0)) ||| nI q.val) ||| ((if x = true then 32 else 0) ||| (if y = true then 64 else (0 : Int32)))) ||| (if z = true then 128 else 0) := by decide +kernel
theorem sim_line {rowsOn ov busy : Bool} {rhead rs many ss sm : Int32} {ra rc mk : Nat → Int32} {ks : Nat} (hks : ks ≤ 16) (h1 : ss = nI ks) (h2 : sm = nI ks) (h : RR rowsOn rhead rs ra many rc mk) :
    ∃ uc um, F_X8_tellLineState rowsOn ov rhead rs 16 ra ss busy = some uc ∧ F_X9_line rowsOn many ov sm busy 16 mk = some um ∧ uc.1 = um.1 ∧ uc.2.1 = um.2.1 ∧ RR rowsOn rhead rs uc.2.2 many rc um.2.2 := by
  obtain ⟨k', m, hk', hm, hm4, e1, e2, e3, e4, e5⟩ := ff_c h
  obtain ⟨k, cs, ms, hR, rfl, hw, hr⟩ := h
  have hk := hR.le
  have hkk : k = k' := (nI_eq (by omega) (by omega)).mp e2
  subst hkk
  have hs := hR.size
  have hsf := sf_c hR (fun i hi => ⟨(hw i hi).2.2.1, (hw i hi).2.2.2.1⟩) k 0 100000 (by omega) (by omega)
  rw [nI_0] at hsf
  have hc : ∃ a', F_X8_tellLineState rowsOn ov rhead rs 16 ra ss busy = some (((((nI m ||| bI (!decide (k = 0))) ||| (if ov = true then 2 else 0)) ||| (if decide (ks = 0) = true then 32 else 0)) ||| (if (decide (ks = 0) && !busy) = true then 64 else 0)) ||| (if (rowsOn && anyf ms 0 k) = true then 128 else 0), false, a') ∧ RR rowsOn rhead rs a' (nI k) rc (if k = 0 then mk else upd mk 0 0) := by
    have ht : ∃ a', (bd (F_X5_first rhead rs 16 ra) (fun u2 => F_X5_setFirst (u2 &&& 255) rhead rs 16 ra)) = some a' ∧ RR rowsOn rhead rs a' (nI k) rc (if k = 0 then mk else upd mk 0 0) := by
      rw [rg_first hR (by omega), bd_some]
      by_cases hk0 : k = 0
      · subst hk0
        exact ⟨ra, rg_setFirst0 hR (by omega) _, 0, cs, ms, hR, rfl, hw, hr⟩
      · obtain ⟨z1, z2, z3, z4, z5⟩ := hw 0 (by omega)
        rw [if_neg hk0, if_neg hk0, ch_and z3 z4]
        obtain ⟨a', q1, q2⟩ := rg_setFirst hR (by omega) (by omega) (nI (cs 0))
        refine ⟨a', q1, k, cs, fun i => if i = 0 then 0 else ms i, q2.congr (fun i hi => ?_), rfl, fun i hi => ?_, hr⟩
        · by_cases hi0 : i = 0
          · subst hi0
            rw [pk_us]
            rfl
          · dsimp only
            rw [pk_un hi0, if_neg hi0]
        · by_cases hi0 : i = 0
          · subst hi0
            exact ⟨z1, pk_us, z3, by show 0 < 32; omega, rfl⟩
          · dsimp only
            rw [pk_un hi0, if_neg hi0]
            exact hw i hi
    obtain ⟨a', t1, t2⟩ := ht
    refine ⟨a', ?_, t2⟩
    have h108 : ∀ x y : Int32, F_X8_tellLineState_108 rowsOn rhead rs 16 ss busy x y ov ra = some (x ||| y, false, a') := fun x y => by
      unfold F_X8_tellLineState_108
      rw [lt1_eq]
      rw [rg_first hR (by omega), bd_some] at t1
      rw [rg_first hR (by omega), bd_some, t1, bd_some]
    have h84 : ∀ x y : Int32, F_X8_tellLineState_84 rowsOn rhead rs 16 ss busy x y ov ra = some ((x ||| y) ||| (if (rowsOn && anyf ms 0 k) = true then 128 else 0), false, a') := fun x y => by
      unfold F_X8_tellLineState_84 F_X8_someFault
      rw [lt1_eq, hsf, bd_some, h108, h108]
      cases rowsOn <;> cases anyf ms 0 k <;> rfl
    have he : F_X5_isEmpty ss = some (decide (ks = 0)) := by
      unfold F_X5_isEmpty
      rw [h1]
      by_cases z : ks = 0
      · rw [z, if_pos nI_0]; rfl
      · rw [if_neg (nI_ne0 (by omega) (by omega)), decide_eq_false z]
    unfold F_X8_tellLineState F_X8_tellLineState_21 F_X8_tellLineState_36 F_X8_tellLineState_55 F_X6_isBusy
    rw [e5, bd_some, rg_empty hR (by omega), bd_some]
    simp only [lt1_eq, he, bd_some, h84]
    cases decide (k = 0) <;> cases ov <;> cases decide (ks = 0) <;> cases busy <;> rfl
  obtain ⟨a', c1, c2⟩ := hc
  have hM : F_X9_line rowsOn (nI k) ov sm busy 16 mk = some ((((bI (!decide (k = 0)) ||| (if ov = true then 2 else 0)) ||| nI m) ||| ((if decide (ks = 0) = true then 32 else 0) ||| (if (decide (ks = 0) && !busy) = true then 64 else (0 : Int32)))) ||| (if (rowsOn && anyf ms 0 k) = true then 128 else 0), false, if k = 0 then mk else upd mk 0 0) := by
    have h135 : ∀ x : Int32, F_X9_line_135 rowsOn (nI k) sm busy 16 x ov mk = some (x, false, if k = 0 then mk else upd mk 0 0) := fun x => by
      unfold F_X9_line_135
      by_cases hk0 : k = 0
      · subst hk0
        rw [if_pos (show nI 0 ≤ 0 by decide), if_pos rfl]
      · rw [if_neg (nI_nle (by omega) (by omega)), gd_t (show inR 0 16 = true from by decide), if_neg hk0]
        rfl
    have h85 : ∀ x : Int32, F_X9_line_85 rowsOn (nI k) sm busy 16 100000 x false 0 ov mk = some (x ||| (if (rowsOn && anyf ms 0 k) = true then 128 else 0), false, if k = 0 then mk else upd mk 0 0) := fun x => by
      have q := sf_m rowsOn busy ov sm x hk (ms := ms) (mk := mk) (fun i hi => ⟨(hw i hi).2.1, (hw i hi).2.2.2.1⟩) k 0 100000 false (by omega) (by omega)
      rw [nI_0, h135] at q
      exact q
    have hes : (sm = 0) = (ks = 0) := propext ⟨fun q => by
      by_cases z : ks = 0
      · exact z
      · exact absurd (h2.symm.trans q) (nI_ne0 (by omega) (by omega)), fun q => by rw [h2, q]; rfl⟩
    have h42 : ∀ x y : Int32, F_X9_line_42 rowsOn (nI k) sm busy 16 x y ov mk = some (((x ||| y) ||| ((if decide (ks = 0) = true then 32 else 0) ||| (if (decide (ks = 0) && !busy) = true then 64 else (0 : Int32)))) ||| (if (rowsOn && anyf ms 0 k) = true then 128 else 0), false, if k = 0 then mk else upd mk 0 0) := fun x y => by
      unfold F_X9_line_42 F_X9_line_58
      simp only [lt1_eq, h85, hes]
      by_cases z : ks = 0
      · rw [if_pos z, if_pos z, decide_eq_true z]
        cases busy <;> rfl
      · rw [if_neg z, if_neg z, decide_eq_false z]
        cases busy <;> rfl
    have h24 : ∀ (b : Bool) (y : Int32), F_X9_line_24 rowsOn (nI k) sm busy 16 b y ov mk = some ((((bI b ||| y) ||| nI m) ||| ((if decide (ks = 0) = true then 32 else 0) ||| (if (decide (ks = 0) && !busy) = true then 64 else (0 : Int32)))) ||| (if (rowsOn && anyf ms 0 k) = true then 128 else 0), false, if k = 0 then mk else upd mk 0 0) := fun b y => by
      unfold F_X9_line_24
      by_cases hk0 : k = 0
      · rw [if_pos (show nI k ≤ 0 by rw [hk0]; decide), h42, e3 hk0]
        rfl
      · have hz : (0 : Int32).toNatClampNeg = 0 := rfl
        rw [if_neg (nI_nle (by omega) (by omega)), gd_t (show inR 0 16 = true from by decide), h42, hz, e4 hk0]
    unfold F_X9_line F_X9_line_12
    simp only [h24]
    by_cases hk0 : k = 0
    · rw [if_pos (show nI k ≤ 0 by rw [hk0]; decide), decide_eq_true hk0]
      cases ov <;> rfl
    · rw [if_neg (nI_nle (by omega) (by omega)), decide_eq_false hk0]
      cases ov <;> rfl
  refine ⟨_, _, c1, hM, ?_, rfl, c2⟩
  exact ln_tab ⟨m, hm⟩ _ _ _ _ _
theorem rs_85 (wn lv : Int32) (ro ov em cu mu : Bool) (hd s a ch rm mk) : ∃ r, F_X8_reason_85 wn lv ro ov em cu hd s 16 a ch = some r ∧ F_X9_reason_76 wn ro lv ch rm ov em mu 16 mk = some r := by
  unfold F_X8_reason_85 F_X9_reason_76 F_X8_reason_102 F_X9_reason_94 F_X8_wants F_X3_hasChanged
  by_cases h2 : wn &&& 2 = 0 <;> by_cases h8 : wn &&& 8 = 0 <;> by_cases hc : ch = 0 <;> cases em <;> simp only [h2, h8, hc, if_true, if_false, bd_some, bt_true, bt_false] <;> exact ⟨_, rfl, rfl⟩
theorem sim_reason {wn ch beats quiet late head size many : Int32} {rowsOn ov em cu mu : Bool} {a rc mk : Nat → Int32} {l : Nat} (hl1 : 1 ≤ l) (hl2 : l ≤ 14) (h : RR rowsOn head size a many rc mk) (hL : RLt rowsOn cu mu size beats quiet late) :
    ∃ r, F_X8_reason wn (nI l) rowsOn ov em cu head size 16 a ch = some r ∧ F_X9_reason wn rowsOn (nI l) ch many ov em mu 16 mk = some r := by
  obtain ⟨k, m, hk, hm, hm4, rfl, rfl, e3, e4, e5⟩ := ff_c h
  obtain ⟨r85, q1, q2⟩ := rs_85 wn (nI l) rowsOn ov em cu mu head (nI k) a ch (nI k) mk
  have h60 : nI k < nI l ∨ rowsOn = false → ∃ r, F_X8_reason_60 wn (nI l) rowsOn ov em cu head (nI k) 16 a ch = some r ∧ (if (wn &&& 1) = 0 then F_X9_reason_76 wn rowsOn (nI l) ch (nI k) ov em mu 16 mk else bt rowsOn (bt mu (some 12) (F_X9_reason_76 wn rowsOn (nI l) ch (nI k) ov em mu 16 mk)) (F_X9_reason_76 wn rowsOn (nI l) ch (nI k) ov em mu 16 mk)) = some r := fun hlt => by
    unfold F_X8_reason_60 F_X8_wants
    rw [q1, q2]
    by_cases h1 : wn &&& 1 = 0
    · rw [if_pos h1, if_pos h1]
      exact ⟨_, rfl, rfl⟩
    · rw [if_neg h1, if_neg h1, bd_some, bt_true]
      cases rowsOn with
      | false => exact ⟨_, rfl, rfl⟩
      | true =>
        have h16 : ¬ nI k = 16 := fun z => by
          have hk16 := (nI_eq (b := 16) (by omega) (by omega)).mp z
          rcases hlt with q | q
          · have := (nI_ltI (by omega) (by omega)).mp q
            omega
          · cases q
        have := (hL rfl).1 h16
        subst this
        cases cu <;> exact ⟨_, rfl, rfl⟩
  have h25 : ∃ r, F_X8_reason_25 wn (nI l) rowsOn ov em cu head (nI k) 16 a ch = some r ∧ F_X9_reason_26 wn rowsOn (nI l) ch (nI k) ov em mu 16 mk = some r := by
    unfold F_X8_reason_25 F_X9_reason_26 F_X8_reason_55 F_X9_reason_54 F_X8_wants F_X5_size
    by_cases h1 : wn &&& 1 = 0
    · rw [if_pos h1, if_pos h1, bd_some, bt_false]
      unfold F_X8_reason_60 F_X8_wants
      rw [if_pos h1, bd_some, bt_false, q1, q2]
      exact ⟨_, rfl, rfl⟩
    · rw [if_neg h1, if_neg h1, bd_some, bt_true, bd_some]
      cases rowsOn with
      | true =>
        rw [bt_true, bt_true]
        by_cases hlt : nI k < nI l
        · obtain ⟨r, p1, p2⟩ := h60 (Or.inl hlt)
          rw [if_neg h1] at p2
          rw [if_pos hlt, if_pos hlt]
          exact ⟨r, p1, p2⟩
        · rw [if_neg hlt, if_neg hlt]
          exact ⟨_, rfl, rfl⟩
      | false =>
        rw [bt_false, bt_false]
        by_cases hlt : nI k < 1
        · obtain ⟨r, p1, p2⟩ := h60 (Or.inr rfl)
          rw [if_neg h1] at p2
          rw [if_pos hlt, if_pos hlt]
          exact ⟨r, p1, p2⟩
        · rw [if_neg hlt, if_neg hlt]
          exact ⟨_, rfl, rfl⟩
  unfold F_X8_reason F_X9_reason F_X8_wants
  obtain ⟨r, p1, p2⟩ := h25
  rw [e5, im_m hk hm e3 e4, p1, p2]
  by_cases h4 : wn &&& 4 = 0
  · rw [if_pos h4, if_pos h4]
    exact ⟨_, rfl, rfl⟩
  · rw [if_neg h4, if_neg h4, bd_some, bt_true]
    cases ov with
    | true => exact ⟨_, rfl, rfl⟩
    | false =>
      rw [bt_false, bt_false, bd_some, bd_some]
      by_cases hm0 : m = 0
      · rw [hm0, if_pos (show nI 0 = 0 from rfl)]
        exact ⟨_, rfl, rfl⟩
      · rw [if_neg (nI_ne0 (by omega) (by omega)), decide_eq_false hm0]
        exact ⟨_, rfl, rfl⟩
