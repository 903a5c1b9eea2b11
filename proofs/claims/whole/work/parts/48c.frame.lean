/-! PURE: pieces appended to the wave, on both sides. -/
theorem rw_app {high lin : Bool} {head size : Int32} {a : Nat → Int32} {K : Nat} {wh : Nat → Bool} {wb : Nat → Int32} (h : RW high lin head size a (nI K) wh wb) (hK : K < 500) (p : Bool) {c : Nat} (hc1 : 1 ≤ c) (hc2 : c ≤ 4000) : ∃ u, F_X1_append p (nI c) head size 500 a = some u ∧ RW high lin head u.1 u.2 (nI (K + 1)) (va_up wh K p) (upd wb K (nI c)) := by
  obtain ⟨rfl, k, lv, bs, hR, hk, hm⟩ := h
  have hl := hR.le
  have hkK : K = k := (nI_eq (by omega) (by omega)).mp hk
  subst hkK
  obtain ⟨u, e1, r1⟩ := rg_add hR (by omega) hK (cv p c)
  have e0 : nI c * 2 + bI p = cv p c := by
    have : nI c * 2 = nI (c * 2) := pk_mul c 2
    rw [this]
    cases p
    · show nI (c * 2) + nI 0 = nI (2 * c + 0)
      rw [nI_add]; congr 1; omega
    · show nI (c * 2) + nI 1 = nI (2 * c + 1)
      rw [nI_add]; congr 1; omega
  refine ⟨u, ?_, rfl, K + 1, fun i => if i = K then p else lv i, fun i => if i = K then c else bs i, r1.congr (fun i hi => ?_), rfl, fun i hi => ?_⟩
  · unfold F_X1_append F_X1_append_16
    rw [← e0] at e1
    cases p
    · rw [bt_false, e1, bd_some]
    · rw [bt_true, e1, bd_some]
  · by_cases hi2 : i = K
    · subst hi2
      dsimp only
      rw [pk_us, if_pos rfl, if_pos rfl]
    · dsimp only
      rw [pk_un hi2, if_neg hi2, if_neg hi2]
  · by_cases hi2 : i = K
    · subst hi2
      dsimp only
      rw [pk_us, if_pos rfl, if_pos rfl]
      refine ⟨?_, rfl, hc1, hc2⟩
      unfold va_up
      rw [if_pos rfl]
    · dsimp only
      rw [pk_un hi2, if_neg hi2, if_neg hi2]
      have hv : va_up wh K p i = wh i := by unfold va_up; rw [if_neg hi2]
      rw [hv]
      exact hm i (by omega)
def np (n : Nat) : Nat := 7 + n % 4 + n / 8 % 2
def sb (n : Nat) : Nat := if n / 4 % 2 = 0 then 16 else if n % 4 = 0 then 24 else 32
theorem np_le (n : Nat) : 7 ≤ np n ∧ np n ≤ 11 := by unfold np; omega
theorem sb_le (n : Nat) : 1 ≤ sb n ∧ sb n ≤ 4000 := by
  unfold sb
  split
  · omega
  · split <;> omega
theorem sh_np : ∀ n : Fin 256, F_X7_pieces (nI n.val) = some (nI (np n.val)) ∧ F_X7_stopBeats (nI n.val) = some (nI (sb n.val)) ∧ F_X9_stopOf (nI n.val) = some (nI (sb n.val)) ∧ hp (nI n.val) = decide (n.val / 8 % 2 = 1) ∧ (nI n.val) &&& 3 = nI (n.val % 4) := by decide +kernel
theorem np_c {n : Nat} (h : n < 256) : F_X7_pieces (nI n) = some (nI (np n)) := (sh_np ⟨n, h⟩).1
theorem sb_c {n : Nat} (h : n < 256) : F_X7_stopBeats (nI n) = some (nI (sb n)) := (sh_np ⟨n, h⟩).2.1
theorem sb_m {n : Nat} (h : n < 256) : F_X9_stopOf (nI n) = some (nI (sb n)) := (sh_np ⟨n, h⟩).2.2.1
theorem hp_n {n : Nat} (h : n < 256) : hp (nI n) = decide (n / 8 % 2 = 1) := (sh_np ⟨n, h⟩).2.2.2.1
theorem db_n {n : Nat} (h : n < 256) : (nI n) &&& 3 = nI (n % 4) := (sh_np ⟨n, h⟩).2.2.2.2
theorem last_high {n : Nat} (h : n < 256) (ch : Int32) : F_X7_pieceIsHigh (nI n) ch (nI (np n - 1)) = some true := by
  have hb := np_le n
  have hnp : np n = 7 + n % 4 + n / 8 % 2 := rfl
  unfold F_X7_pieceIsHigh F_X7_dataBits
  rw [bd_some, db_n h, if_pos (show (0 : Int32) < nI (np n - 1) from nI_lt (a := 0) (by omega) (by omega))]
  have e5 : (5 : Int32) + nI (n % 4) = nI (5 + n % 4) := nI_add 5 (n % 4)
  rw [e5, if_pos (nI_lt (by omega) (by omega)), nI_1]
  by_cases h2 : n / 8 % 2 = 1
  · rw [if_neg (fun e => by have := (nI_eq (by omega) (by omega)).mp e; omega)]
  · rw [if_pos (by congr 1; omega), hp_c, hp_n h, decide_eq_false h2, bd_some]
    rfl
theorem bne_if (b f : Bool) : (if bI b = bI f then false else true) = (b != f) := by cases b <;> cases f <;> rfl
theorem pb_c {n j : Nat} (h : n < 256) (hj : j < np n) : F_X7_pieceBeats (nI n) (nI j) = some (nI (if j = np n - 1 then sb n else 16)) := by
  have hb := np_le n
  unfold F_X7_pieceBeats
  rw [np_c h, bd_some]
  have e : nI (np n) - 1 = nI (np n - 1) := pk_sub (b := 1) (by omega)
  rw [e]
  by_cases hj2 : j = np n - 1
  · rw [if_pos (by rw [hj2]), if_pos hj2, sb_c h, bd_some]
  · rw [if_neg (fun q => hj2 ((nI_eq (by omega) (by omega)).mp q)), if_neg hj2]
    rfl
theorem frm_loop {n : Nat} (hn : n < 256) (ch flip : Int32) (high lin : Bool) (head thrown : Int32) : ∀ (fuel j K : Nat) (size : Int32) (a : Nat → Int32) (wh : Nat → Bool) (wb : Nat → Int32), j ≤ np n → np n - j < fuel → K + (np n - j) ≤ 500 → RW high lin head size a (nI K) wh wb →
    ∃ uc um, F_X8_frame_24 (nI n) head 500 fuel ch flip (nI (np n)) (nI j) size a = some uc ∧ F_X9_frame_48 (nI n) 500 500 fuel ch flip (nI (np n)) (nI j) (nI K) thrown wh wb = some um ∧ uc.1 = um.1 ∧ um.2.2.1 = thrown ∧ RW high lin head uc.2.1 uc.2.2 um.2.1 um.2.2.2.1 um.2.2.2.2 := by
  intro fuel
  have hb := np_le n
  induction fuel with
  | zero => intro j K size a wh wb h1 h2; omega
  | succ m ih =>
    intro j K size a wh wb h1 h2 h3 hW
    show ∃ uc um, F_X8_frame_24_s (F_X8_frame_24 (nI n) head 500 m) (nI n) head 500 ch flip (nI (np n)) (nI j) size a = some uc ∧ F_X9_frame_48_s (F_X9_frame_48 (nI n) 500 500 m) (nI n) 500 500 ch flip (nI (np n)) (nI j) (nI K) thrown wh wb = some um ∧ _
    unfold F_X8_frame_24_s F_X9_frame_48_s
    by_cases hj : j = np n
    · subst hj
      rw [if_pos (nI_le (Nat.le_refl _) (by omega)), if_pos (nI_le (Nat.le_refl _) (by omega))]
      exact ⟨_, _, rfl, rfl, rfl, rfl, hW⟩
    · rw [if_neg (nI_ge (by omega) (by omega)), if_neg (nI_ge (by omega) (by omega))]
      have e : nI (np n) - 1 = nI (np n - 1) := pk_sub (b := 1) (by omega)
      obtain ⟨b, hb1, hb2⟩ := part_eq (nI n) ch j (by omega)
      have hm : (if nI j = nI (np n) - 1 then F_X9_frame_80 (F_X9_frame_48 (nI n) 500 500 m) (nI n) 500 500 true ch flip (nI (np n)) (nI j) (nI K) thrown wh wb else bd (F_X9_partOf (nI n) ch (nI j)) (fun u11 => bt u11 (F_X9_frame_80 (F_X9_frame_48 (nI n) 500 500 m) (nI n) 500 500 true ch flip (nI (np n)) (nI j) (nI K) thrown wh wb) (F_X9_frame_80 (F_X9_frame_48 (nI n) 500 500 m) (nI n) 500 500 false ch flip (nI (np n)) (nI j) (nI K) thrown wh wb))) = F_X9_frame_80 (F_X9_frame_48 (nI n) 500 500 m) (nI n) 500 500 b ch flip (nI (np n)) (nI j) (nI K) thrown wh wb := by
        rw [e]
        by_cases hl : j = np n - 1
        · have := last_high hn ch
          rw [← hl, hb1] at this
          injection this with this
          rw [if_pos (by rw [hl]), this]
        · rw [if_neg (fun q => hl ((nI_eq (by omega) (by omega)).mp q)), hb2, bd_some]
          cases b <;> rfl
      rw [hm, hb1, bd_some]
      have hsb := sb_le n
      obtain ⟨u, e1, r1⟩ := rw_app hW (by omega) (b != decide (nI j = flip)) (c := if j = np n - 1 then sb n else 16) (by split <;> omega) (by split <;> omega)
      obtain ⟨uc, um, i1, i2, i3, i4, i5⟩ := ih (j + 1) (K + 1) u.1 u.2 _ _ (by omega) (by omega) (by omega) r1
      refine ⟨uc, um, ?_, ?_, i3, i4, i5⟩
      · have h59 : ∀ f : Bool, F_X8_frame_59 (F_X8_frame_24 (nI n) head 500 m) (nI n) head 500 b f ch flip (nI (np n)) (nI j) size a = F_X8_frame_67 (F_X8_frame_24 (nI n) head 500 m) (nI n) head 500 (b != f) ch flip (nI (np n)) (nI j) size a := fun f => by
          cases b <;> cases f <;> rfl
        have hif : (if nI j = flip then F_X8_frame_59 (F_X8_frame_24 (nI n) head 500 m) (nI n) head 500 b true ch flip (nI (np n)) (nI j) size a else F_X8_frame_59 (F_X8_frame_24 (nI n) head 500 m) (nI n) head 500 b false ch flip (nI (np n)) (nI j) size a) = F_X8_frame_67 (F_X8_frame_24 (nI n) head 500 m) (nI n) head 500 (b != decide (nI j = flip)) ch flip (nI (np n)) (nI j) size a := by
          by_cases hf : nI j = flip
          · rw [if_pos hf, h59, decide_eq_true hf]
          · rw [if_neg hf, h59, decide_eq_false hf]
        rw [hif]
        unfold F_X8_frame_67
        rw [pb_c hn (by omega), bd_some, e1, bd_some, lt1_eq, nI_1]
        exact i1
      · have h103 : ∀ f : Bool, F_X9_frame_103 (F_X9_frame_48 (nI n) 500 500 m) (nI n) 500 500 (nI K) b f ch flip (nI (np n)) (nI j) (nI K) thrown wh wb = F_X9_frame_111 (F_X9_frame_48 (nI n) 500 500 m) (nI n) 500 500 (nI K) (b != f) ch flip (nI (np n)) (nI j) (nI K) thrown wh wb := fun f => by
          cases b <;> cases f <;> rfl
        have hif : F_X9_frame_80 (F_X9_frame_48 (nI n) 500 500 m) (nI n) 500 500 b ch flip (nI (np n)) (nI j) (nI K) thrown wh wb = F_X9_frame_111 (F_X9_frame_48 (nI n) 500 500 m) (nI n) 500 500 (nI K) (b != decide (nI j = flip)) ch flip (nI (np n)) (nI j) (nI K) thrown wh wb := by
          unfold F_X9_frame_80
          by_cases hf : nI j = flip
          · rw [if_pos hf, h103, decide_eq_true hf]
          · rw [if_neg hf, h103, decide_eq_false hf]
        rw [hif]
        unfold F_X9_frame_111
        rw [gd_t (inR_nI (by omega) (by omega)), e, nI_clamp (by omega)]
        have h140 : ∀ s : Int32, F_X9_frame_140 (F_X9_frame_48 (nI n) 500 500 m) (nI n) 500 500 (nI K) s ch flip (nI (np n)) (nI j) (nI K) thrown (va_up wh K (b != decide (nI j = flip))) wb = F_X9_frame_48 (nI n) 500 500 m ch flip (nI (np n)) (nI (j + 1)) (nI (K + 1)) thrown (va_up wh K (b != decide (nI j = flip))) (upd wb K s) := fun s => by
          unfold F_X9_frame_140
          rw [gd_t (inR_nI (by omega) (by omega)), lt1_eq, lt1_eq, nI_1, nI_1, nI_clamp (by omega)]
        by_cases hl : j = np n - 1
        · rw [if_pos hl] at i2
          rw [if_pos (by rw [hl]), sb_m hn, bd_some, h140]
          exact i2
        · rw [if_neg hl] at i2
          rw [if_neg (fun q => hl ((nI_eq (by omega) (by omega)).mp q)), h140]
          exact i2
theorem sim_frame {n : Nat} (hn : n < 256) (ch flip : Int32) {high lin : Bool} {head size many thrown : Int32} {a : Nat → Int32} {wh : Nat → Bool} {wb : Nat → Int32} (h : RW high lin head size a many wh wb) :
    ∃ uc um, F_X8_frame ch flip (nI n) head size 500 a = some uc ∧ F_X9_frame ch flip (nI n) many thrown 500 wh 500 wb = some um ∧ uc.1 = um.1 ∧ um.2.2.1 = 0 ∧ RW high lin head uc.2.1 uc.2.2 um.2.1 um.2.2.2.1 um.2.2.2.2 := by
  have hb := np_le n
  have h0 := h
  obtain ⟨rfl, k, lv, bs, hR, rfl, hm⟩ := h0
  have hk := hR.le
  have hs := hR.size
  subst hs
  have e29 : F_X9_frame ch flip (nI n) (nI k) thrown 500 wh 500 wb = (if nI k + nI (np n) ≤ 500 then F_X9_frame_48 (nI n) 500 500 100000 ch flip (nI (np n)) 0 (nI k) 0 wh wb else some (-1, nI k, 0, wh, wb)) := by
    unfold F_X9_frame F_X9_frame_29 F_X9_bitsOf
    rw [bd_some, hp_m, bd_some, hp_n hn, db_n hn]
    have e7 : (2 : Int32) + (5 + nI (n % 4)) = nI (7 + n % 4) := by
      rw [show (5 : Int32) + nI (n % 4) = nI (5 + n % 4) from nI_add 5 _, show (2 : Int32) + nI (5 + n % 4) = nI (2 + (5 + n % 4)) from nI_add 2 _]
      congr 1; omega
    rw [e7]
    by_cases h2 : n / 8 % 2 = 1
    · have ep : nI (7 + n % 4) + bI true = nI (np n) := by
        rw [show nI (7 + n % 4) + bI true = nI (7 + n % 4 + 1) from nI_1 _]
        unfold np; rw [h2]
      rw [decide_eq_true h2, bt_true, lt1_eq, ep]
    · have ep : nI (7 + n % 4) + bI false = nI (np n) := by
        rw [show nI (7 + n % 4) + bI false = nI (7 + n % 4 + 0) from nI_add _ 0]
        unfold np; rw [show n / 8 % 2 = 0 by omega]
      rw [decide_eq_false h2, bt_false, lt1_eq, ep]
  rw [e29, nI_add]
  unfold F_X8_frame F_X1_room F_X5_room
  rw [np_c hn, bd_some, bd_some, bd_some]
  have er : Int32.ofNat 500 - nI k = nI (500 - k) := pk_sub hk
  rw [er]
  by_cases hc : k + np n ≤ 500
  · rw [if_pos (nI_le (by omega) (by omega)), if_pos (show nI (k + np n) ≤ 500 from nI_le (b := 500) hc (by omega))]
    exact frm_loop hn ch flip high high head 0 100000 0 k (nI k) a wh wb (by omega) (by omega) (by omega) h
  · rw [if_neg (nI_ge (by omega) (by omega)), if_neg (show ¬ nI (k + np n) ≤ 500 from nI_ge (a := 500) (by omega) (by omega))]
    exact ⟨_, _, rfl, rfl, rfl, rfl, h⟩
theorem sim_wave (p : Bool) (c : Int32) {high lin : Bool} {head size many thrown : Int32} {a : Nat → Int32} {wh : Nat → Bool} {wb : Nat → Int32} (h : RW high lin head size a many wh wb) :
    ∃ uc um, F_X8_wave p c head size 500 a = some uc ∧ F_X9_wave p c many thrown 500 wh 500 wb = some um ∧ uc.1 = um.1 ∧ um.2.2.1 = 0 ∧ RW high lin head uc.2.1 uc.2.2 um.2.1 um.2.2.2.1 um.2.2.2.2 := by
  have h0 := h
  obtain ⟨rfl, k, lv, bs, hR, rfl, hm⟩ := h0
  have hk := hR.le
  have hs := hR.size
  unfold F_X8_wave F_X9_wave
  by_cases h1 : c < 1
  · rw [if_pos h1, if_pos h1]
    exact ⟨_, _, rfl, rfl, rfl, rfl, h⟩
  · rw [if_neg h1, if_neg h1]
    by_cases h2 : 4000 < c
    · rw [if_pos h2, if_pos h2]
      exact ⟨_, _, rfl, rfl, rfl, rfl, h⟩
    · rw [if_neg h2, if_neg h2]
      obtain ⟨d, hd1, rfl⟩ := nI_of (x := c) (fun q => h1 (Int32.lt_trans q (by decide)))
      have hd2 : ¬ d < 1 := fun q => h1 (nI_lt (b := 1) q (by omega))
      have hd3 : ¬ 4000 < d := fun q => h2 (nI_lt (a := 4000) q (by omega))
      unfold F_X1_room F_X5_room
      rw [bd_some, bd_some]
      have er : Int32.ofNat 500 - size = nI (500 - k) := by rw [hs]; exact pk_sub hk
      rw [er]
      by_cases hc : k = 500
      · subst hc
        rw [if_neg (show ¬ (1 : Int32) ≤ nI (500 - 500) by decide), if_pos (show nI 500 = 500 from rfl)]
        exact ⟨_, _, rfl, rfl, rfl, rfl, h⟩
      · obtain ⟨u, e1, r1⟩ := rw_app h (by omega) p (c := d) (by omega) (by omega)
        rw [if_pos (show (1 : Int32) ≤ nI (500 - k) from nI_le (a := 1) (by omega) (by omega)), if_neg (show ¬ nI k = 500 from fun q => hc ((nI_eq (b := 500) (by omega) (by omega)).mp q)), e1, bd_some, gd_t (inR_nI (by omega) (by omega)), gd_t (inR_nI (by omega) (by omega)), lt1_eq, nI_1, nI_clamp (by omega)]
        unfold F_X1_pieces F_X5_size
        rw [bd_some, bd_some]
        refine ⟨_, _, rfl, rfl, ?_, rfl, r1⟩
        obtain ⟨q1, q2, q3, q4, q5, q6, q7⟩ := r1
        exact q5.size.trans q6.symm
