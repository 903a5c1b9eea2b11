/-! PURE: run, count's line, and what write needs, on both sides. -/
theorem ru_at {B : Nat} (hB : B < 2 ^ 28) {inAll head size runs : Int32} {a : Nat → Int32} {rh : Nat → Bool} {rb : Nat → Int32} {out : Bool} (h : RU B inAll head size a runs rh rb out) : ∃ t k : Nat, k ≤ t ∧ k ≤ 40 ∧ (k < 40 → k = t) ∧ t < 2 ^ 28 ∧ size = nI k ∧ inAll = nI t ∧ runs = nI t ∧ (out = if t = 0 then true else rh ((t - 1) % 40)) ∧ (∀ i, i < k → F_X2_runIsHigh (nI i) head size 40 a = some (rh ((t - 1 - i) % 40)) ∧ F_X2_runBeats (nI i) head size 40 a = some (rb ((t - 1 - i) % 40))) := by
  obtain ⟨t, k, lv, bs, h1, h2, h3, h4, h5, h6, h7, h8, h9, h10⟩ := h
  refine ⟨t, k, h1, h2, h3, by omega, h4.size, h5, h6, ?_, fun i hi => ?_⟩
  · rw [h8]
    by_cases ht : t = 0
    · rw [if_pos ht, if_pos ht]
    · rw [if_neg ht, if_neg ht, (h7 (t - 1) (by omega) (by omega)).1]
  · have e := run_end h4 (by omega) hi
    rw [show t - k + (k - 1 - i) = t - 1 - i by omega] at e
    obtain ⟨q1, q2⟩ := h7 (t - 1 - i) (by omega) (by omega)
    obtain ⟨q3, q4⟩ := h10 (t - 1 - i) (by omega)
    unfold F_X2_runIsHigh F_X2_runBeats
    rw [e, bd_some, bd_some, cv_and (by omega), cv_shr (by omega), q1, q2]
    refine ⟨?_, rfl⟩
    cases lv (t - 1 - i) <;> rfl
theorem sim_high {B : Nat} (hB : B < 2 ^ 28) {inAll head size runs : Int32} {a : Nat → Int32} {rh : Nat → Bool} {rb : Nat → Int32} {out : Bool} (h : RU B inAll head size a runs rh rb out) : F_X2_isHigh head size 40 a = some out := by
  obtain ⟨t, k, h1, h2, h3, h4, h5, h6, h7, h8, h9⟩ := ru_at hB h
  unfold F_X2_isHigh F_X5_isEmpty
  by_cases hk : k = 0
  · have : t = 0 := by omega
    rw [h5, hk, if_pos nI_0, bd_some, h8, if_pos this]
    rfl
  · have e := (h9 0 (by omega)).1
    rw [nI_0] at e
    rw [if_neg (show ¬ size = 0 by rw [h5]; exact nI_ne0 (by omega) (by omega)), bd_some, bt_false, e, bd_some, h8, if_neg (by omega), Nat.sub_zero]
    cases rh ((t - 1) % 40) <;> rfl
theorem sim_run {B : Nat} (hB : B < 2 ^ 28) {inAll head size runs : Int32} {a : Nat → Int32} {rh : Nat → Bool} {rb : Nat → Int32} {out : Bool} (p1 p2 th : Int32) (h : RU B inAll head size a runs rh rb out) : ∃ r, F_X8_run p1 p2 head size 40 a = some r ∧ F_X9_run p1 p2 runs th 40 rh 40 rb = some (r, 0) := by
  obtain ⟨t, k, h1, h2, h3, h4, h5, h6, h7, h8, h9⟩ := ru_at hB h
  unfold F_X8_run F_X9_run F_X2_runsKept F_X5_size
  by_cases hp : p1 < 0
  · rw [if_pos hp, if_pos hp]
    exact ⟨_, rfl, rfl⟩
  · obtain ⟨i, hi, rfl⟩ := nI_of hp
    rw [if_neg hp, if_neg hp, bd_some, bd_some, h7]
    by_cases hik : i < k
    · obtain ⟨e1, e2⟩ := h9 i hik
      rw [if_pos (show nI i < size by rw [h5]; exact nI_lt hik (by omega)), if_neg (show ¬ (40 : Int32) ≤ nI i from nI_ge (b := 40) (by omega) (by omega)), if_neg (show ¬ nI t ≤ nI i from nI_ge (by omega) (by omega)), e1, e2]
      by_cases h20 : p2 = 0
      · subst h20
        rw [if_pos rfl, if_neg (show ¬ (0 : Int32) < 0 by decide), if_pos (show (0 : Int32) ≤ 1 by decide)]
        obtain ⟨s, rfl⟩ : ∃ s, t = s + 1 := ⟨t - 1, by omega⟩
        have er : nI s - nI i - (nI s - nI i) / 40 * 40 = nI ((s - i) % 40) := by
          rw [pk_sub (by omega)]
          exact pk_rem (a := s - i) (d := 40) (by omega) (by omega) (by omega)
        rw [nI_pred, er, lt1_eq, if_neg (show ¬ (0 : Int32) = 1 by decide), gd_t (inR_nI (Nat.mod_lt _ (by omega)) (by omega)), nI_clamp (by omega), bd_some]
        rw [show s + 1 - 1 - i = s - i by omega]
        cases rh ((s - i) % 40) <;> exact ⟨_, rfl, rfl⟩
      · rw [if_neg h20]
        by_cases h21 : p2 = 1
        · subst h21
          rw [if_pos rfl, if_neg (show ¬ (1 : Int32) < 0 by decide), if_pos (show (1 : Int32) ≤ 1 by decide)]
          obtain ⟨s, rfl⟩ : ∃ s, t = s + 1 := ⟨t - 1, by omega⟩
          have er : nI s - nI i - (nI s - nI i) / 40 * 40 = nI ((s - i) % 40) := by
            rw [pk_sub (by omega)]
            exact pk_rem (a := s - i) (d := 40) (by omega) (by omega) (by omega)
          rw [nI_pred, er, lt1_eq, if_pos rfl, gd_t (inR_nI (Nat.mod_lt _ (by omega)) (by omega)), nI_clamp (by omega), bd_some]
          rw [show s + 1 - 1 - i = s - i by omega]
          exact ⟨_, rfl, rfl⟩
        · rw [if_neg h21]
          refine ⟨_, rfl, ?_⟩
          by_cases q : p2 < 0
          · rw [if_pos q]
          · obtain ⟨c, hc, rfl⟩ := nI_of q
            rw [if_neg q, if_neg (show ¬ nI c ≤ 1 from nI_ge (a := 1) (by
              rcases Nat.lt_or_ge 1 c with z | z
              · exact z
              · exfalso
                have : c = 0 ∨ c = 1 := by omega
                rcases this with rfl | rfl
                · exact h20 rfl
                · exact h21 rfl) hc)]
    · rw [if_neg (show ¬ nI i < size by rw [h5]; exact nI_nlt (by omega) (by omega))]
      refine ⟨_, rfl, ?_⟩
      by_cases h40 : 40 ≤ i
      · rw [if_pos (show (40 : Int32) ≤ nI i from nI_le (a := 40) h40 hi)]
      · rw [if_neg (show ¬ (40 : Int32) ≤ nI i from nI_ge (b := 40) (by omega) (by omega)), if_pos (show nI t ≤ nI i from nI_le (by omega) hi)]
theorem rd_mono {K K' : Nat} (hK : K ≤ K') {cd cp md mc : Int32} (h : RD K cd cp md mc) : RD K' cd cp md mc := by
  obtain ⟨d, d1, d2, d3, d4 | d4⟩ := h
  · obtain ⟨d5, t, d6, d7⟩ := d4
    exact ⟨d, d1, d2, d3, Or.inl ⟨d5, t, d6, by omega⟩⟩
  · exact ⟨d, d1, d2, d3, Or.inr d4⟩
theorem rs_k {rowsOn : Bool} {head size many : Int32} {a w : Nat → Int32} (h : RS rowsOn head size a many w) : ∃ k : Nat, k ≤ 16 ∧ size = nI k ∧ many = nI k := by
  obtain ⟨k, g, hR, rfl, hw, hr⟩ := h
  exact ⟨k, hR.le, hR.size, rfl⟩
theorem rs_zero (rowsOn : Bool) (a w : Nat → Int32) : RS rowsOn 0 0 a 0 w := ⟨0, fun _ => 0, rg_clear 16 (by omega) a _, rfl, fun i hi => absurd hi (Nat.not_lt_zero i), fun _ => by omega⟩
theorem rr_zero (rowsOn : Bool) (a rc mk : Nat → Int32) : RR rowsOn 0 0 a 0 rc mk := ⟨0, fun _ => 0, fun _ => 0, rg_clear 16 (by omega) a _, rfl, fun i hi => absurd hi (Nat.not_lt_zero i), fun _ => by omega⟩
theorem rw_zero (a : Nat → Int32) (wh : Nat → Bool) (wb : Nat → Int32) : RW true true 0 0 a 0 wh wb := ⟨rfl, 0, fun _ => true, fun _ => 0, rg_clear 500 (by omega) a _, rfl, fun i hi => absurd hi (Nat.not_lt_zero i)⟩
theorem ru_zero (B : Nat) (a : Nat → Int32) (rh : Nat → Bool) (rb : Nat → Int32) : RU B 0 0 0 a 0 rh rb true := ⟨0, 0, fun _ => true, fun _ => 0, by omega, by omega, fun _ => rfl, rg_clear 40 (by omega) a _, rfl, rfl, fun r _ hr => absurd hr (Nat.not_lt_zero r), rfl, by omega, fun r hr => absurd hr (Nat.not_lt_zero r)⟩
theorem sim_putc {rowsOn e : Bool} {head size many : Int32} {a w : Nat → Int32} (x : Int32) (h : RS rowsOn head size a many w) :
    ∃ uc, F_X8_putCharacter x rowsOn e head size 16 a = some uc ∧ uc.1 = false ∧ ∃ k : Nat, k ≤ 16 ∧ many = nI k ∧ ((rowsOn = true ∧ k = 16 ∧ RS rowsOn head uc.2.1 uc.2.2 many w) ∨ (rowsOn = false ∧ k = 1 ∧ RS rowsOn head uc.2.1 uc.2.2 many (upd w 0 x)) ∨ (k < (if rowsOn = true then 16 else 1) ∧ RS rowsOn head uc.2.1 uc.2.2 (nI (k + 1)) (upd w k x))) := by
  obtain ⟨k, g, hR, rfl, hw, hr⟩ := h
  have hk := hR.le
  have hs := hR.size
  have hadd : k < 16 → (rowsOn = false → k = 0) → ∃ u, F_X5_add x head size 16 a = some u ∧ RS rowsOn head u.1 u.2 (nI (k + 1)) (upd w k x) := fun h1 h2 => by
    obtain ⟨u, e1, r1⟩ := rg_add hR (by omega) h1 x
    refine ⟨u, e1, k + 1, upd g k x, r1, rfl, fun i hi => ?_, fun hf => by have := h2 hf; omega⟩
    by_cases hi2 : i = k
    · subst hi2
      rw [pk_us, pk_us]
    · rw [pk_un hi2, pk_un hi2]
      exact hw i (by omega)
  unfold F_X8_putCharacter F_X5_size F_X8_rowRoom
  cases rowsOn with
  | true =>
    rw [bd_some, bt_true, bd_some]
    by_cases h16 : k = 16
    · rw [if_pos (show (16 : Int32) ≤ size by rw [hs, h16]; decide), bt_true]
      exact ⟨_, rfl, rfl, k, hk, rfl, Or.inl ⟨rfl, h16, k, g, hR, rfl, hw, hr⟩⟩
    · obtain ⟨u, e1, r1⟩ := hadd (by omega) (fun q => by cases q)
      rw [if_neg (show ¬ (16 : Int32) ≤ size by rw [hs]; exact nI_ge (b := 16) (by omega) (by omega)), e1, bd_some]
      exact ⟨_, rfl, rfl, k, hk, rfl, Or.inr (Or.inr ⟨by rw [if_pos rfl]; omega, r1⟩)⟩
  | false =>
    have hk1 := hr rfl
    rw [bd_some, bt_false, bd_some]
    by_cases h1 : k = 1
    · subst h1
      obtain ⟨a', e1, r1⟩ := rg_setFirst hR (by omega) (by omega) x
      rw [if_pos (show (1 : Int32) ≤ size by rw [hs]; decide), bt_false, e1, bd_some]
      refine ⟨_, rfl, rfl, 1, hk, rfl, Or.inr (Or.inl ⟨rfl, rfl, 1, upd g 0 x, r1, rfl, fun i hi => ?_, fun _ => by omega⟩)⟩
      have : i = 0 := by omega
      subst this
      rw [pk_us, pk_us]
    · obtain ⟨u, e1, r1⟩ := hadd (by omega) (fun _ => by omega)
      rw [if_neg (show ¬ (1 : Int32) ≤ size by rw [hs]; exact nI_ge (b := 1) (by omega) (by omega)), e1, bd_some]
      exact ⟨_, rfl, rfl, k, hk, rfl, Or.inr (Or.inr ⟨by rw [if_neg (by decide)]; omega, r1⟩)⟩
theorem wn_tab : ∀ (x : Fin 256) (w : Fin 16), (((nI x.val &&& 15) &&& (nI w.val ^^^ (-1))) &&& 2 = 0) = (nI x.val &&& 2 = 0 ∨ ¬ nI w.val &&& 2 = 0) := by
  have t : ∀ (x : Fin 256) (w : Fin 16), (((nI x.val &&& 15) &&& (nI w.val ^^^ (-1))) &&& 2 = 0) ↔ (nI x.val &&& 2 = 0 ∨ ¬ nI w.val &&& 2 = 0) := by decide +kernel
  exact fun x w => propext (t x w)
theorem lv_tab : ∀ x : Fin 256, ∃ l : Fin 15, 1 ≤ l.val ∧ F_X8_levelOf (nI x.val >>> ((6 : Int32) &&& 31)) = some (nI l.val) := by decide +kernel
theorem and_or32 (a b c : Int32) : (a ||| b) &&& c = (a &&& c) ||| (b &&& c) := by
  apply Int32.toBitVec_inj.mp
  simp only [Int32.toBitVec_and, Int32.toBitVec_or]
  apply BitVec.eq_of_getLsbD_eq
  intro i hi
  simp only [BitVec.getLsbD_and, BitVec.getLsbD_or]
  cases a.toBitVec.getLsbD i <;> cases b.toBitVec.getLsbD i <;> cases c.toBitVec.getLsbD i <;> rfl
theorem and_and32 (a b c : Int32) : (a &&& b) &&& c = a &&& (b &&& c) := by
  apply Int32.toBitVec_inj.mp
  simp [BitVec.and_assoc]
theorem or_lt16 {a b : Int32} (ha : a &&& 65535 = a) (hb : b &&& 65535 = b) : ∃ j : Nat, j < 65536 ∧ a ||| b = nI j := by
  obtain ⟨j, hj, e⟩ := pk_andE (a ||| b) (m := 65535) 16 (by decide)
  refine ⟨j, hj, ?_⟩
  rw [and_or32, ha, hb] at e
  exact e
theorem byte_lo (d : Int32) {x : Nat} (hx : x < 256) : ∃ j : Nat, j < 65536 ∧ (d &&& 65280) ||| nI x = nI j :=
  or_lt16 (by rw [and_and32]; rfl) (by rw [pk_andN (n := x) (m := 65535) (by omega) 16 (by decide)]; congr 1; omega)
theorem byte_hi (d : Int32) {x : Nat} (hx : x < 256) : ∃ j : Nat, j < 65536 ∧ (d &&& 255) ||| (nI x <<< ((8 : Int32) &&& 31)) = nI j :=
  or_lt16 (by rw [and_and32]; rfl) (by rw [pk_shlN (n := x) ((8 : Int32) &&& 31) 8 (by decide) (by omega), pk_andN (n := x * 2 ^ 8) (m := 65535) (by omega) 16 (by decide)]; congr 1; omega)
theorem byte_sh {d : Nat} (hd : d < 65536) : (nI d >>> ((8 : Int32) &&& 31)) &&& 255 = nI d >>> ((8 : Int32) &&& 31) := by
  rw [pk_shrN (n := d) (by omega) ((8 : Int32) &&& 31) 8 (by decide), pk_andN (n := d / 2 ^ 8) (m := 255) (by omega) 8 (by decide)]
  congr 1
  omega
theorem rd_new {K j : Nat} (hj : j < 65536) : RD K (nI j) 0 (nI j) 0 := by
  by_cases h : j = 0
  · exact ⟨j, hj, rfl, rfl, Or.inl ⟨h, 0, rfl, by omega⟩⟩
  · exact ⟨j, hj, rfl, rfl, Or.inr ⟨by omega, 0, by omega, rfl, rfl⟩⟩
theorem cases8 {p : Int32} (h : ¬ (p < 0 ∨ ¬ p ≤ 7)) : p = 0 ∨ p = 1 ∨ p = 2 ∨ p = 3 ∨ p = 4 ∨ p = 5 ∨ p = 6 ∨ p = 7 := by
  obtain ⟨j, hj, rfl⟩ := nI_of (x := p) (fun q => h (Or.inl q))
  have hj7 : j ≤ 7 := by
    rcases Nat.lt_or_ge 7 j with q | q
    · exact absurd (Or.inr (nI_ge (a := 7) q hj)) h
    · exact q
  have : j = 0 ∨ j = 1 ∨ j = 2 ∨ j = 3 ∨ j = 4 ∨ j = 5 ∨ j = 6 ∨ j = 7 := by omega
  rcases this with rfl | rfl | rfl | rfl | rfl | rfl | rfl | rfl
  · exact Or.inl rfl
  · exact Or.inr (Or.inl rfl)
  · exact Or.inr (Or.inr (Or.inl rfl))
  · exact Or.inr (Or.inr (Or.inr (Or.inl rfl)))
  · exact Or.inr (Or.inr (Or.inr (Or.inr (Or.inl rfl))))
  · exact Or.inr (Or.inr (Or.inr (Or.inr (Or.inr (Or.inl rfl)))))
  · exact Or.inr (Or.inr (Or.inr (Or.inr (Or.inr (Or.inr (Or.inl rfl))))))
  · exact Or.inr (Or.inr (Or.inr (Or.inr (Or.inr (Or.inr (Or.inr rfl))))))
