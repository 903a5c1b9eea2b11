/-! PURE: the receiver, on both sides. -/
def RC (control character beat : Int32) (busy wasHigh parityHigh someHigh takes sawHigh : Bool) (tf tb tc tp : Int32) : Prop :=
  busy = takes ∧ (busy = false → wasHigh = sawHigh) ∧ (busy = true → ∃ n c t : Nat, n < 256 ∧ c < 256 ∧ t < 16 * (6 + n % 4 + n / 8 % 2) + 7 ∧ control = nI n ∧ tf = nI n ∧ character = nI c ∧ tc = nI c ∧ beat = nI t ∧ tb = nI t ∧ tp = bI parityHigh ∧ someHigh = (!decide (c = 0) || parityHigh) ∧ (t < 16 * (6 + n % 4) + 7 → parityHigh = false))
theorem bit_tab : ∀ (c : Fin 256) (j : Fin 8), nI c.val ||| ((1 : Int32) <<< ((nI (j.val + 1) - 1) &&& 31)) = nI (c.val ||| 2 ^ j.val) ∧ (c.val ||| 2 ^ j.val) < 256 ∧ ¬ (c.val ||| 2 ^ j.val) = 0 := by decide +kernel
theorem mk_tab : ∀ (c : Fin 256) (q : Fin 8), nI c.val ||| (nI (4 * q.val) <<< ((8 : Int32) &&& 31)) = nI (c.val + 256 * (4 * q.val)) := by decide +kernel
theorem sim_faults (n c : Nat) (hc : c < 256) (h par rowsOn lin sh ov saw tk : Bool) (form outs many late x tf : Int32) (rc mk : Nat → Int32) :
    ∃ q : Fin 8, F_X4_faults h (nI n) (nI c) par ((!decide (c = 0) || par) || h) = some (nI (4 * q.val)) ∧ F_X9_receive_187 rowsOn form outs lin sh 16 16 h many ov late tk saw (nI n) x (nI c) (bI par) rc mk = F_X9_receive_260 rowsOn form outs lin sh 16 16 h (nI (4 * q.val)) many ov late tk saw (nI n) x (nI c) (bI par) rc mk := by
  obtain ⟨b, hb1, hb2⟩ := par_eq (nI n) (nI c)
  have e4 : (0 : Int32) ||| 4 = nI (4 * 1) := by decide
  have e8 : (8 : Int32) ||| 4 = nI (4 * 3) := by decide
  have f8 : (0 : Int32) ||| 8 = nI (4 * 2) := by decide
  have f12 : nI (4 * 1) ||| 8 = nI (4 * 3) := by decide
  have g24 : nI (4 * 2) ||| 16 = nI (4 * 6) := by decide
  have g28 : nI (4 * 3) ||| 16 = nI (4 * 7) := by decide
  have c24 : (8 : Int32) ||| 16 = nI (4 * 6) := by decide
  have c28 : nI (4 * 6) ||| 4 = nI (4 * 7) := by decide
  have b10 : ¬ bI true = 0 := by decide
  have b00 : bI false = 0 := rfl
  unfold F_X4_faults F_X4_faults_10 F_X4_faults_23 F_X9_receive_187 F_X9_receive_224 F_X9_receive_235
  simp only [hp_c, hp_m, hb1, hb2, bd_some, lt1_eq]
  have eb : ∀ p r : Bool, (bI p = bI r) = (p = r) := fun p r => propext ⟨bI_inj, fun q => by rw [q]⟩
  simp only [eb]
  by_cases hc0 : c = 0
  · subst hc0
    have z : nI 0 = 0 := rfl
    cases hp (nI n) <;> cases h <;> cases par <;> cases b <;> simp only [bt_true, bt_false, if_true, if_false, decide_true, Bool.not_true, Bool.or_true, Bool.or_false, Bool.false_or, Bool.true_or, z, e4, e8, f8, f12, g24, g28, c24, c28, b10, b00, reduceCtorEq] <;> first | exact ⟨0, rfl, rfl⟩ | exact ⟨1, rfl, rfl⟩ | exact ⟨2, rfl, rfl⟩ | exact ⟨3, rfl, rfl⟩ | exact ⟨6, rfl, rfl⟩ | exact ⟨7, rfl, rfl⟩
  · have z : ¬ nI c = 0 := nI_ne0 (by omega) (by omega)
    have dz : decide (c = 0) = false := decide_eq_false hc0
    cases hp (nI n) <;> cases h <;> cases par <;> cases b <;> simp only [bt_true, bt_false, if_true, if_false, dz, Bool.not_false, Bool.or_true, Bool.or_false, Bool.false_or, Bool.true_or, z, e4, e8, f8, f12, g24, g28, c24, c28, b10, b00, reduceCtorEq] <;> first | exact ⟨0, rfl, rfl⟩ | exact ⟨1, rfl, rfl⟩ | exact ⟨2, rfl, rfl⟩ | exact ⟨3, rfl, rfl⟩ | exact ⟨6, rfl, rfl⟩ | exact ⟨7, rfl, rfl⟩
theorem dbc {n : Nat} (h : n < 256) : F_X7_dataBits (nI n) = some (nI (5 + n % 4)) := by
  unfold F_X7_dataBits
  rw [db_n h, show (5 : Int32) + nI (n % 4) = nI (5 + n % 4) from nI_add 5 _]
theorem dbm {n : Nat} (h : n < 256) : F_X9_bitsOf (nI n) = some (nI (5 + n % 4)) := by
  unfold F_X9_bitsOf
  rw [db_n h, show (5 : Int32) + nI (n % 4) = nI (5 + n % 4) from nI_add 5 _]
theorem see_split (h smh busy was par : Bool) (ctl chr beat : Int32) {d : Int32} (hd : F_X7_dataBits ctl = some d) : F_X4_see h ctl chr beat busy was par smh = F_X4_see_33 ctl beat (smh || h) h (beat / 16) d chr busy was par smh := by
  unfold F_X4_see
  rw [lt1_eq, hd, bd_some]
  cases smh <;> cases h <;> rfl
theorem sim_step {n0 : Nat} (hn0 : n0 < 256) (h rowsOn lin sh ov : Bool) (outs many late : Int32) (rc mk : Nat → Int32) {ctl chr beat tf tb tc tp : Int32} {busy was par smh takes saw : Bool} (hR : RC ctl chr beat busy was par smh takes saw tf tb tc tp) :
    ∃ uc, F_X4_step h (nI n0) ctl chr beat busy was par smh = some uc ∧
      ((uc.1 = -1 ∧ ∃ um : Bool × Bool × Int32 × Int32 × Int32 × Int32, F_X9_receive_18 rowsOn (nI n0) outs lin sh 16 16 h many ov late takes saw tf tb tc tp rc mk = some (many, ov, late, um.1, um.2.1, um.2.2.1, um.2.2.2.1, um.2.2.2.2.1, um.2.2.2.2.2, rc, mk) ∧ RC uc.2.1 uc.2.2.1 uc.2.2.2.1 uc.2.2.2.2.1 uc.2.2.2.2.2.1 uc.2.2.2.2.2.2.1 uc.2.2.2.2.2.2.2 um.1 um.2.1 um.2.2.1 um.2.2.2.1 um.2.2.2.2.1 um.2.2.2.2.2) ∨
       (∃ (c m : Nat) (tf' tb' tc' tp' : Int32), c < 256 ∧ m < 32 ∧ m % 4 = 0 ∧ uc.1 = nI (c + 256 * m) ∧ F_X9_receive_18 rowsOn (nI n0) outs lin sh 16 16 h many ov late takes saw tf tb tc tp rc mk = bd (F_X9_put (nI c) (nI m) rowsOn many ov late 16 rc 16 mk) (fun u1 => some (u1.1, u1.2.1, u1.2.2.1, false, h, tf', tb', tc', tp', u1.2.2.2.1, u1.2.2.2.2)) ∧ RC uc.2.1 uc.2.2.1 uc.2.2.2.1 uc.2.2.2.2.1 uc.2.2.2.2.2.1 uc.2.2.2.2.2.2.1 uc.2.2.2.2.2.2.2 false h tf' tb' tc' tp')) := by
  obtain ⟨rfl, hI, hB⟩ := hR
  cases busy with
  | false =>
    have := hI rfl
    subst this
    unfold F_X4_step F_X4_listen F_X4_begin F_X9_receive_18
    rw [bt_false, bt_false]
    cases h with
    | true =>
      exact ⟨_, rfl, Or.inl ⟨rfl, (_, _, _, _, _, _), rfl, rfl, fun _ => rfl, fun q => by cases q⟩⟩
    | false =>
      cases was with
      | true => exact ⟨_, rfl, Or.inl ⟨rfl, (_, _, _, _, _, _), rfl, rfl, fun q => (by cases q), fun _ => ⟨n0, 0, 0, hn0, by omega, by omega, rfl, rfl, rfl, rfl, rfl, rfl, rfl, rfl, fun _ => rfl⟩⟩⟩
      | false => exact ⟨_, rfl, Or.inl ⟨rfl, (_, _, _, _, _, _), rfl, rfl, fun _ => rfl, fun q => by cases q⟩⟩
  | true =>
    obtain ⟨n, c, t, hn, hc, ht, rfl, rfl, rfl, rfl, rfl, rfl, rfl, rfl, hp0⟩ := hB rfl
    have hmod : nI (t + 1) - nI (t + 1) / 16 * 16 = nI ((t + 1) % 16) := pk_rem (a := t + 1) (d := 16) (by omega) (by omega) (by omega)
    have hdiv : nI (t + 1) / 16 = nI ((t + 1) / 16) := pk_div (a := t + 1) (d := 16) (by omega) (by omega) (by omega)
    unfold F_X4_step F_X9_receive_18
    rw [bt_true, bt_true, lt1_eq, lt1_eq, nI_1, hmod]
    by_cases h7 : (t + 1) % 16 = 7
    · rw [h7, if_pos (show nI 7 = 7 from rfl), if_pos (show nI 7 = 7 from rfl), lt1_eq, hdiv, dbm hn, bd_some]
      by_cases h0 : t = 6
      · subst h0
        rw [if_pos (show nI (6 + 1) = 7 from rfl), if_pos (show nI ((6 + 1) / 16) = 0 from rfl)]
        unfold F_X4_seeStart F_X4_becomeIdle
        cases h with
        | true => exact ⟨_, rfl, Or.inl ⟨rfl, (_, _, _, _, _, _), rfl, rfl, fun _ => rfl, fun q => by cases q⟩⟩
        | false => exact ⟨_, rfl, Or.inl ⟨rfl, (_, _, _, _, _, _), rfl, rfl, fun q => (by cases q), fun _ => ⟨n, c, 7, hn, hc, by omega, rfl, rfl, rfl, rfl, rfl, rfl, rfl, rfl, fun q => hp0 (by omega)⟩⟩⟩
      · obtain ⟨j, hj⟩ : ∃ j, j = (t + 1) / 16 := ⟨_, rfl⟩
        have htj : t + 1 = 16 * j + 7 := by omega
        have hj1 : 1 ≤ j := by omega
        have hj2 : j ≤ 6 + n % 4 + n / 8 % 2 := by omega
        rw [if_neg (show ¬ nI (t + 1) = 7 from fun q => by have := (nI_eq (b := 7) (by omega) (by omega)).mp q; omega), see_split _ _ _ _ _ _ _ _ (dbc hn), hdiv, ← hj, if_neg (nI_ne0 (by omega) (by omega))]
        unfold F_X4_see_33
        have estop : ∃ uc, bd (F_X4_see_89 (nI n) (nI (t + 1)) h (nI c) true was par ((!decide (c = 0) || par) || h)) (fun u5 => some (u5.1, nI n, u5.2.1, nI (t + 1), u5.2.2.1, u5.2.2.2.1, u5.2.2.2.2.1, u5.2.2.2.2.2)) = some uc ∧ (∃ (c' m : Nat) (tf' tb' tc' tp' : Int32), c' < 256 ∧ m < 32 ∧ m % 4 = 0 ∧ uc.1 = nI (c' + 256 * m) ∧ F_X9_receive_187 rowsOn (nI n0) outs lin sh 16 16 h many ov late true saw (nI n) (nI (t + 1)) (nI c) (bI par) rc mk = bd (F_X9_put (nI c') (nI m) rowsOn many ov late 16 rc 16 mk) (fun u1 => some (u1.1, u1.2.1, u1.2.2.1, false, h, tf', tb', tc', tp', u1.2.2.2.1, u1.2.2.2.2)) ∧ RC uc.2.1 uc.2.2.1 uc.2.2.2.1 uc.2.2.2.2.1 uc.2.2.2.2.2.1 uc.2.2.2.2.2.2.1 uc.2.2.2.2.2.2.2 false h tf' tb' tc' tp') := by
          obtain ⟨q, k1, k2⟩ := sim_faults n c hc h par rowsOn lin sh ov saw true (nI n0) outs many late (nI (t + 1)) (nI n) rc mk
          unfold F_X4_see_89 F_X4_becomeIdle
          rw [bd_some, k1, bd_some, bd_some, k2]
          have km := mk_tab ⟨c, hc⟩ q
          have hq := q.isLt
          exact ⟨_, rfl, c, 4 * q.val, _, _, _, _, hc, by omega, by omega, km, rfl, rfl, fun _ => rfl, fun q => by cases q⟩
        by_cases hs : 5 + n % 4 < j
        · rw [if_pos (nI_lt hs (by omega)), if_pos (nI_lt hs (by omega)), nI_1]
          by_cases hs1 : j = 5 + n % 4 + 1
          · rw [if_pos (by rw [hs1]), if_pos (by rw [hs1]), hp_c, hp_m, bd_some, bd_some, hp_n hn]
            by_cases hpp : n / 8 % 2 = 1
            · rw [decide_eq_true hpp, bt_true, bt_true, bd_some]
              have hpf : par = false := hp0 (by omega)
              subst hpf
              have em : bt h (some (many, ov, late, true, saw, nI n, nI (t + 1), nI c, (1 : Int32), rc, mk)) (some (many, ov, late, true, saw, nI n, nI (t + 1), nI c, (0 : Int32), rc, mk)) = some (many, ov, late, true, saw, nI n, nI (t + 1), nI c, bI h, rc, mk) := by cases h <;> rfl
              rw [em]
              refine ⟨_, rfl, Or.inl ⟨rfl, (_, _, _, _, _, _), rfl, rfl, fun q => (by cases q), fun _ => ⟨n, c, t + 1, hn, hc, by omega, rfl, rfl, rfl, rfl, rfl, rfl, rfl, ?_, fun q => by omega⟩⟩⟩
              show ((!decide (c = 0) || false) || h) = (!decide (c = 0) || h)
              rw [Bool.or_false]
            · rw [decide_eq_false hpp, bt_false, bt_false]
              obtain ⟨uc, e1, e2⟩ := estop
              exact ⟨uc, e1, Or.inr e2⟩
          · rw [if_neg (fun q => hs1 ((nI_eq (by omega) (by omega)).mp q)), if_neg (fun q => hs1 ((nI_eq (by omega) (by omega)).mp q))]
            obtain ⟨uc, e1, e2⟩ := estop
            exact ⟨uc, e1, Or.inr e2⟩
        · rw [if_neg (nI_nlt (by omega) (by omega)), if_neg (nI_nlt (by omega) (by omega))]
          have hpf : par = false := hp0 (by omega)
          subst hpf
          cases h with
          | true =>
            obtain ⟨k1, k2, k3⟩ := bit_tab ⟨c, hc⟩ ⟨j - 1, by omega⟩
            have ej : j - 1 + 1 = j := by omega
            dsimp only at k1 k2 k3
            rw [ej] at k1
            rw [bt_true, bt_true, lt1_eq, lt1_eq, k1, bd_some]
            refine ⟨_, rfl, Or.inl ⟨rfl, (_, _, _, _, _, _), rfl, rfl, fun q => (by cases q), fun _ => ⟨n, c ||| 2 ^ (j - 1), t + 1, hn, k2, by omega, rfl, rfl, rfl, rfl, rfl, rfl, rfl, ?_, fun _ => rfl⟩⟩⟩
            show ((!decide (c = 0) || false) || true) = (!decide (c ||| 2 ^ (j - 1) = 0) || false)
            rw [decide_eq_false k3, Bool.or_true]
            rfl
          | false =>
            rw [bt_false, bt_false, lt1_eq, or_zero32, bd_some]
            refine ⟨_, rfl, Or.inl ⟨rfl, (_, _, _, _, _, _), rfl, rfl, fun q => (by cases q), fun _ => ⟨n, c, t + 1, hn, hc, by omega, rfl, rfl, rfl, rfl, rfl, rfl, rfl, ?_, fun _ => rfl⟩⟩⟩
            show ((!decide (c = 0) || false) || false) = (!decide (c = 0) || false)
            rw [Bool.or_false]
    · have h7' : ¬ nI ((t + 1) % 16) = 7 := fun q => h7 ((nI_eq (b := 7) (by omega) (by omega)).mp q)
      rw [if_neg h7', if_neg h7']
      exact ⟨_, rfl, Or.inl ⟨rfl, (_, _, _, _, _, _), rfl, rfl, fun q => (by cases q), fun _ => ⟨n, c, t + 1, hn, hc, by omega, rfl, rfl, rfl, rfl, rfl, rfl, rfl, rfl, fun q => hp0 (by omega)⟩⟩⟩
