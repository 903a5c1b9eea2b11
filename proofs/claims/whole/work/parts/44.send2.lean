/-! PURE: one beat of the sender, on both sides. -/
theorem fl_bd (n : Nat) : fl n ≤ 192 := (fl_le n).2
theorem snd_next {n t : Nat} (hn : n < 256) (ht : t < fl n) (ch form many : Int32) (e sh : Bool) (w : Nat → Int32) : ∃ b, F_X6_next (nI n) ch (nI t) true = some (b, nI (t + 1), decide (t + 1 < fl n)) ∧ F_X9_send_94 form 16 many e true ch (nI n) (nI t) sh w = some (many, e, decide (t + 1 < fl n), ch, nI n, nI (t + 1), b, w) := by
  have hf := fl_bd n
  obtain ⟨b, hb1, hb2⟩ := part_eq (nI n) ch (t / 16) (by omega)
  have hd : nI t / 16 = nI (t / 16) := pk_div (a := t) (d := 16) (by omega) (by omega) (by omega)
  refine ⟨b, ?_, ?_⟩
  · unfold F_X6_next
    rw [bt_true, hd, hb1, bd_some, lt1_eq, nI_1, sh_beats hn, bd_some]
    by_cases h : t + 1 < fl n
    · rw [if_neg (nI_ge h (by omega)), decide_eq_true h]
    · rw [if_pos (nI_le (by omega) (by omega)), decide_eq_false h]
  · unfold F_X9_send_94
    rw [bt_true, hd, hb2, bd_some, lt1_eq, nI_1, sh_frame hn, bd_some]
    by_cases h : t + 1 < fl n
    · rw [if_neg (fun q => by have := (nI_eq (by omega) (by omega)).mp q; omega), decide_eq_true h]
    · rw [if_pos (by rw [show t + 1 = fl n by omega]), decide_eq_false h]
theorem sim_send {rowsOn e busy sends sh : Bool} {lc head size cc cch cb many sch sf sb : Int32} {a w : Nat → Int32} {n0 : Nat} (hn0 : n0 < 256) (hlc : lc = nI n0) (hS : RS rowsOn head size a many w) (hN : RN cc cch cb busy sends sch sf sb) :
    ∃ uc um, F_X8_stepSender lc e head size 16 a cc cch cb busy = some uc ∧ F_X9_send lc many e sends sch sf sb sh 16 w = some um ∧ uc.1 = um.2.2.2.2.2.2.1 ∧ uc.2.1 = um.2.1 ∧ RS rowsOn uc.2.2.1 uc.2.2.2.1 a um.1 um.2.2.2.2.2.2.2 ∧ RN uc.2.2.2.2.1 uc.2.2.2.2.2.1 uc.2.2.2.2.2.2.1 uc.2.2.2.2.2.2.2 um.2.2.1 um.2.2.2.1 um.2.2.2.2.1 um.2.2.2.2.2.1 := by
  obtain ⟨rfl, hB⟩ := hN
  cases busy with
  | true =>
    obtain ⟨n, t, hn, rfl, rfl, rfl, rfl, rfl, ht⟩ := hB rfl
    obtain ⟨b, h1, h2⟩ := snd_next hn ht cch lc many e sh w
    refine ⟨(b, e, head, size, nI n, cch, nI (t + 1), decide (t + 1 < fl n)), (many, e, decide (t + 1 < fl n), cch, nI n, nI (t + 1), b, w), ?_, ?_, rfl, rfl, hS, rfl, fun hd => ⟨n, t + 1, hn, rfl, rfl, rfl, rfl, rfl, of_decide_eq_true hd⟩⟩
    · unfold F_X8_stepSender F_X6_isBusy
      rw [bd_some, bt_true]
      unfold F_X8_stepSender_60
      rw [h1, bd_some]
    · unfold F_X9_send
      rw [bt_true]
      exact h2
  | false =>
    obtain ⟨k, g, hR, rfl, hw, hr⟩ := hS
    have hk := hR.le
    by_cases hk0 : k = 0
    · subst hk0
      refine ⟨(true, e, head, size, cc, cch, cb, false), (nI 0, e, false, sch, sf, sb, true, w), ?_, ?_, rfl, rfl, ⟨0, g, hR, rfl, hw, hr⟩, rfl, fun h => by cases h⟩
      · unfold F_X8_stepSender F_X6_isBusy
        rw [bd_some, bt_false, rg_empty hR (by omega), bd_some]
        rfl
      · unfold F_X9_send
        rw [bt_false, if_pos (show nI 0 ≤ 0 from nI_le (b := 0) (Nat.le_refl 0) (by omega))]
        rfl
    · obtain ⟨u8, h8, hR8⟩ := rg_drop hR (by omega) (by omega)
      have hfirst := rg_first hR (by omega)
      rw [if_neg hk0] at hfirst
      have he8 := rg_empty hR8 (by omega)
      obtain ⟨w', l1, l2, l3⟩ := snd_loop lc 100000 0 (k - 1) e false (w 0) sf sb sh w (by omega) (by omega) (by omega)
      have ht : 0 < fl n0 := by have := (fl_le n0).1; omega
      obtain ⟨b, h1, h2⟩ := snd_next hn0 ht (g 0) lc (nI (k - 1)) (if k - 1 = 0 then true else e) sh w'
      refine ⟨(b, if k - 1 = 0 then true else e, u8.1, u8.2, lc, g 0, nI 1, decide (1 < fl n0)), (nI (k - 1), if k - 1 = 0 then true else e, decide (1 < fl n0), g 0, lc, nI 1, b, w'), ?_, ?_, rfl, rfl, ⟨k - 1, fun i => g (i + 1), hR8, rfl, fun i hi => ?_, fun h => by have := hr h; omega⟩, rfl, fun hd => ⟨n0, 1, hn0, hlc, hlc, rfl, rfl, rfl, of_decide_eq_true hd⟩⟩
      · unfold F_X8_stepSender F_X6_isBusy
        rw [bd_some, bt_false, rg_empty hR (by omega), bd_some, decide_eq_false hk0, bt_false, hfirst, bd_some]
        unfold F_X6_begin
        rw [bd_some, h8, bd_some, he8, bd_some]
        unfold F_X8_stepSender_60
        subst hlc
        by_cases hk1 : k - 1 = 0
        · rw [decide_eq_true hk1, bt_true, if_pos hk1]
          show bd (F_X6_next (nI n0) (g 0) (nI 0) true) _ = _
          rw [h1, bd_some]
        · rw [decide_eq_false hk1, bt_false, if_neg hk1]
          show bd (F_X6_next (nI n0) (g 0) (nI 0) true) _ = _
          rw [h1, bd_some]
      · unfold F_X9_send
        rw [bt_false, if_neg (nI_nle (by omega) (by omega)), gd_t (show inR 0 16 = true from by decide), lt1_eq, lt1_eq]
        obtain ⟨j, rfl⟩ : ∃ j, k = j + 1 := ⟨k - 1, by omega⟩
        rw [nI_pred]
        show F_X9_send_36 lc 16 100000 (nI 0) (nI (j + 1 - 1)) e false (w 0) sf sb sh w = _
        rw [l1]
        unfold F_X9_send_76
        subst hlc
        rw [hw 0 (by omega)]
        exact h2
      · show w' i = g (i + 1)
        rw [l3 i (by omega) hi]
        exact hw (i + 1) (by omega)
