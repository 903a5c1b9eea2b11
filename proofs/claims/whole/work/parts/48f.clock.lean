/-! PURE: clock, on both sides. -/
theorem ru_mono {B B' : Nat} (hB : B ≤ B') {inAll head size runs : Int32} {a : Nat → Int32} {rh : Nat → Bool} {rb : Nat → Int32} {o : Bool} (h : RU B inAll head size a runs rh rb o) : RU B' inAll head size a runs rh rb o := by
  obtain ⟨t, k, lv, bs, h1, h2, h3, h4, h5, h6, h7, h8, h9, h10⟩ := h
  exact ⟨t, k, lv, bs, h1, h2, h3, h4, h5, h6, h7, h8, Nat.le_trans h9 hB, fun r hr => ⟨(h10 r hr).1, Nat.le_trans (h10 r hr).2 hB⟩⟩
theorem rb_mono {B B' : Nat} (hB : B ≤ B') {rowsOn : Bool} {rhead : Int32} {sca : Nat → Int32} {c_ov : Bool} {c_em : Bool} {c_lu : Bool} {c_be : Int32} {c_qu : Int32} {c_rs : Int32} {c_ra : (Nat → Int32)} {c_sh : Int32} {c_ss : Int32} {c_sc : Int32} {c_sch : Int32} {c_sb : Int32} {c_sbu : Bool} {c_rc : Int32} {c_rch : Int32} {c_rb : Int32} {c_rbu : Bool} {c_rw : Bool} {c_rp : Bool} {c_rso : Bool} {c_lh : Bool} {c_wh : Int32} {c_ws : Int32} {c_wa : (Nat → Int32)} {c_ia : Int32} {c_uh : Int32} {c_us : Int32} {c_ua : (Nat → Int32)} {m_rm : Int32} {m_ov : Bool} {m_sm : Int32} {m_em : Bool} {m_lu : Bool} {m_lc : Int32} {m_wm : Int32} {m_li : Bool} {m_se : Bool} {m_sch : Int32} {m_sf : Int32} {m_sb : Int32} {m_sH : Bool} {m_tk : Bool} {m_sa : Bool} {m_tf : Int32} {m_tb : Int32} {m_tc : Int32} {m_tp : Int32} {m_be : Int32} {m_ou : Bool} {m_ru : Int32} {m_ra : (Nat → Int32)} {m_ma : (Nat → Int32)} {m_sA : (Nat → Int32)} {m_wH : (Nat → Bool)} {m_wB : (Nat → Int32)} {m_rH : (Nat → Bool)} {m_rB : (Nat → Int32)} (h : RB B rowsOn rhead sca c_ov c_em c_lu c_be c_qu c_rs c_ra c_sh c_ss c_sc c_sch c_sb c_sbu c_rc c_rch c_rb c_rbu c_rw c_rp c_rso c_lh c_wh c_ws c_wa c_ia c_uh c_us c_ua m_rm m_ov m_sm m_em m_lu m_lc m_wm m_li m_se m_sch m_sf m_sb m_sH m_tk m_sa m_tf m_tb m_tc m_tp m_be m_ou m_ru m_ra m_ma m_sA m_wH m_wB m_rH m_rB) : RB B' rowsOn rhead sca c_ov c_em c_lu c_be c_qu c_rs c_ra c_sh c_ss c_sc c_sch c_sb c_sbu c_rc c_rch c_rb c_rbu c_rw c_rp c_rso c_lh c_wh c_ws c_wa c_ia c_uh c_us c_ua m_rm m_ov m_sm m_em m_lu m_lc m_wm m_li m_se m_sch m_sf m_sb m_sH m_tk m_sa m_tf m_tb m_tc m_tp m_be m_ou m_ru m_ra m_ma m_sA m_wH m_wB m_rH m_rB := by
  obtain ⟨hS, hN, hU, hW, hRR, hC, hL, h8, h9, h10⟩ := h
  exact ⟨hS, hN, ru_mono hB hU, hW, hRR, hC, hL, h8, h9, h10⟩
theorem c23_s (a0 : Int32) (a1 : Bool) (a2 a3 : Int32) (a4 a5 : Nat) (a6 : Nat → Int32) (a7 : Int32) (a8 a9 : Nat) (n : Nat) : F_X8_clock_23 a0 a1 a2 a3 a4 a5 a6 a7 a8 a9 (n + 1) = F_X8_clock_23_s (F_X8_clock_23 a0 a1 a2 a3 a4 a5 a6 a7 a8 a9 n) a0 a1 a2 a3 a4 a5 a6 a7 a8 a9 := rfl
theorem c21_s (a0 : Int32) (a1 : Bool) (a2 a3 : Int32) (a4 a5 a6 a7 a8 a9 a10 : Nat) (n : Nat) : F_X9_clock_21 a0 a1 a2 a3 a4 a5 a6 a7 a8 a9 a10 (n + 1) = F_X9_clock_21_s (F_X9_clock_21 a0 a1 a2 a3 a4 a5 a6 a7 a8 a9 a10 n) a0 a1 a2 a3 a4 a5 a6 a7 a8 a9 a10 := rfl
theorem clk_loop {n0 o d n : Nat} (hn0 : n0 < 256) (ho : o < 32) (hd0 : 0 < d) (hd : d < 65536) (hn : n ≤ 60000) (rowsOn : Bool) (rhead : Int32) (sca : Nat → Int32) (pas th : Int32) : ∀ (r j l t fc fm B : Nat) (c_ov : Bool) (c_em : Bool) (c_lu : Bool) (c_be : Int32) (c_qu : Int32) (c_rs : Int32) (c_ra : (Nat → Int32)) (c_sh : Int32) (c_ss : Int32) (c_sc : Int32) (c_sch : Int32) (c_sb : Int32) (c_sbu : Bool) (c_rc : Int32) (c_rch : Int32) (c_rb : Int32) (c_rbu : Bool) (c_rw : Bool) (c_rp : Bool) (c_rso : Bool) (c_lh : Bool) (c_wh : Int32) (c_ws : Int32) (c_wa : (Nat → Int32)) (c_ia : Int32) (c_uh : Int32) (c_us : Int32) (c_ua : (Nat → Int32)) (m_rm : Int32) (m_ov : Bool) (m_sm : Int32) (m_em : Bool) (m_lu : Bool) (m_lc : Int32) (m_wm : Int32) (m_li : Bool) (m_se : Bool) (m_sch : Int32) (m_sf : Int32) (m_sb : Int32) (m_sH : Bool) (m_tk : Bool) (m_sa : Bool) (m_tf : Int32) (m_tb : Int32) (m_tc : Int32) (m_tp : Int32) (m_be : Int32) (m_ou : Bool) (m_ru : Int32) (m_ra : (Nat → Int32)) (m_ma : (Nat → Int32)) (m_sA : (Nat → Int32)) (m_wH : (Nat → Bool)) (m_wB : (Nat → Int32)) (m_rH : (Nat → Bool)) (m_rB : (Nat → Int32)), j + r = n → t < d → l ≤ j → (t + r) / d < fc → r < fm → B + r < 2 ^ 28 → RB B rowsOn rhead sca c_ov c_em c_lu c_be c_qu c_rs c_ra c_sh c_ss c_sc c_sch c_sb c_sbu c_rc c_rch c_rb c_rbu c_rw c_rp c_rso c_lh c_wh c_ws c_wa c_ia c_uh c_us c_ua m_rm m_ov m_sm m_em m_lu m_lc m_wm m_li m_se m_sch m_sf m_sb m_sH m_tk m_sa m_tf m_tb m_tc m_tp m_be m_ou m_ru m_ra m_ma m_sA m_wH m_wB m_rH m_rB →
    ∃ uc um, F_X8_clock_23 (nI n0) rowsOn (nI d) rhead 16 16 sca (nI o) 500 40 fc (nI (l + (t + r) / d)) (nI l) c_ov c_em c_lu c_be c_qu pas c_rs c_ra c_sh c_ss c_sc c_sch c_sb c_sbu c_rc c_rch c_rb c_rbu c_rw c_rp c_rso c_lh c_wh c_ws c_wa c_ia c_uh c_us c_ua = some uc ∧ F_X9_clock_21 (nI d) rowsOn (nI n0) (nI o) 16 16 16 500 500 40 40 fm (nI n) (nI l) (nI j) (nI t) m_rm m_ov m_sm m_em m_lu m_lc m_wm m_li m_se m_sch m_sf m_sb m_sH m_tk m_sa m_tf m_tb m_tc m_tp m_be m_ou m_ru th m_ra m_ma m_sA m_wH m_wB m_rH m_rB = some um ∧ uc.1 = um.1 ∧ uc.2.2.2.2.2.2.1 = pas ∧ um.2.1 = nI ((t + r) % d) ∧ um.2.2.2.2.2.2.2.2.2.2.2.2.2.2.2.2.2.2.2.2.2.2.2.2.1 = th ∧ RB (B + r) rowsOn rhead sca uc.2.1 uc.2.2.1 uc.2.2.2.1 uc.2.2.2.2.1 uc.2.2.2.2.2.1 uc.2.2.2.2.2.2.2.1 uc.2.2.2.2.2.2.2.2.1 uc.2.2.2.2.2.2.2.2.2.1 uc.2.2.2.2.2.2.2.2.2.2.1 uc.2.2.2.2.2.2.2.2.2.2.2.1 uc.2.2.2.2.2.2.2.2.2.2.2.2.1 uc.2.2.2.2.2.2.2.2.2.2.2.2.2.1 uc.2.2.2.2.2.2.2.2.2.2.2.2.2.2.1 uc.2.2.2.2.2.2.2.2.2.2.2.2.2.2.2.1 uc.2.2.2.2.2.2.2.2.2.2.2.2.2.2.2.2.1 uc.2.2.2.2.2.2.2.2.2.2.2.2.2.2.2.2.2.1 uc.2.2.2.2.2.2.2.2.2.2.2.2.2.2.2.2.2.2.1 uc.2.2.2.2.2.2.2.2.2.2.2.2.2.2.2.2.2.2.2.1 uc.2.2.2.2.2.2.2.2.2.2.2.2.2.2.2.2.2.2.2.2.1 uc.2.2.2.2.2.2.2.2.2.2.2.2.2.2.2.2.2.2.2.2.2.1 uc.2.2.2.2.2.2.2.2.2.2.2.2.2.2.2.2.2.2.2.2.2.2.1 uc.2.2.2.2.2.2.2.2.2.2.2.2.2.2.2.2.2.2.2.2.2.2.2.1 uc.2.2.2.2.2.2.2.2.2.2.2.2.2.2.2.2.2.2.2.2.2.2.2.2.1 uc.2.2.2.2.2.2.2.2.2.2.2.2.2.2.2.2.2.2.2.2.2.2.2.2.2.1 uc.2.2.2.2.2.2.2.2.2.2.2.2.2.2.2.2.2.2.2.2.2.2.2.2.2.2.1 uc.2.2.2.2.2.2.2.2.2.2.2.2.2.2.2.2.2.2.2.2.2.2.2.2.2.2.2.1 uc.2.2.2.2.2.2.2.2.2.2.2.2.2.2.2.2.2.2.2.2.2.2.2.2.2.2.2.2.1 uc.2.2.2.2.2.2.2.2.2.2.2.2.2.2.2.2.2.2.2.2.2.2.2.2.2.2.2.2.2 um.2.2.1 um.2.2.2.1 um.2.2.2.2.1 um.2.2.2.2.2.1 um.2.2.2.2.2.2.1 um.2.2.2.2.2.2.2.1 um.2.2.2.2.2.2.2.2.1 um.2.2.2.2.2.2.2.2.2.1 um.2.2.2.2.2.2.2.2.2.2.1 um.2.2.2.2.2.2.2.2.2.2.2.1 um.2.2.2.2.2.2.2.2.2.2.2.2.1 um.2.2.2.2.2.2.2.2.2.2.2.2.2.1 um.2.2.2.2.2.2.2.2.2.2.2.2.2.2.1 um.2.2.2.2.2.2.2.2.2.2.2.2.2.2.2.1 um.2.2.2.2.2.2.2.2.2.2.2.2.2.2.2.2.1 um.2.2.2.2.2.2.2.2.2.2.2.2.2.2.2.2.2.1 um.2.2.2.2.2.2.2.2.2.2.2.2.2.2.2.2.2.2.1 um.2.2.2.2.2.2.2.2.2.2.2.2.2.2.2.2.2.2.2.1 um.2.2.2.2.2.2.2.2.2.2.2.2.2.2.2.2.2.2.2.2.1 um.2.2.2.2.2.2.2.2.2.2.2.2.2.2.2.2.2.2.2.2.2.1 um.2.2.2.2.2.2.2.2.2.2.2.2.2.2.2.2.2.2.2.2.2.2.1 um.2.2.2.2.2.2.2.2.2.2.2.2.2.2.2.2.2.2.2.2.2.2.2.1 um.2.2.2.2.2.2.2.2.2.2.2.2.2.2.2.2.2.2.2.2.2.2.2.2.2.1 um.2.2.2.2.2.2.2.2.2.2.2.2.2.2.2.2.2.2.2.2.2.2.2.2.2.2.1 um.2.2.2.2.2.2.2.2.2.2.2.2.2.2.2.2.2.2.2.2.2.2.2.2.2.2.2.1 um.2.2.2.2.2.2.2.2.2.2.2.2.2.2.2.2.2.2.2.2.2.2.2.2.2.2.2.2.1 um.2.2.2.2.2.2.2.2.2.2.2.2.2.2.2.2.2.2.2.2.2.2.2.2.2.2.2.2.2.1 um.2.2.2.2.2.2.2.2.2.2.2.2.2.2.2.2.2.2.2.2.2.2.2.2.2.2.2.2.2.2.1 um.2.2.2.2.2.2.2.2.2.2.2.2.2.2.2.2.2.2.2.2.2.2.2.2.2.2.2.2.2.2.2 := by
  intro r
  induction r with
  | zero =>
    intro j l t fc fm B c_ov c_em c_lu c_be c_qu c_rs c_ra c_sh c_ss c_sc c_sch c_sb c_sbu c_rc c_rch c_rb c_rbu c_rw c_rp c_rso c_lh c_wh c_ws c_wa c_ia c_uh c_us c_ua m_rm m_ov m_sm m_em m_lu m_lc m_wm m_li m_se m_sch m_sf m_sb m_sH m_tk m_sa m_tf m_tb m_tc m_tp m_be m_ou m_ru m_ra m_ma m_sA m_wH m_wB m_rH m_rB hj ht hl hfc hfm hB h
    have hq0 : 0 ≤ (t + 0) / d := Nat.zero_le _
    obtain ⟨fc, rfl⟩ : ∃ x, fc = x + 1 := ⟨fc - 1, by omega⟩
    obtain ⟨fm, rfl⟩ : ∃ x, fm = x + 1 := ⟨fm - 1, by omega⟩
    rw [c23_s, c21_s]
    unfold F_X8_clock_23_s F_X9_clock_21_s
    rw [Nat.add_zero, Nat.div_eq_of_lt ht, Nat.add_zero, if_pos (nI_le (Nat.le_refl l) (by omega)), if_pos (nI_le (show n ≤ j by omega) (by omega)), Nat.mod_eq_of_lt ht]
    exact ⟨_, _, rfl, rfl, rfl, rfl, rfl, rfl, h⟩
  | succ r ih =>
    intro j l t fc fm B c_ov c_em c_lu c_be c_qu c_rs c_ra c_sh c_ss c_sc c_sch c_sb c_sbu c_rc c_rch c_rb c_rbu c_rw c_rp c_rso c_lh c_wh c_ws c_wa c_ia c_uh c_us c_ua m_rm m_ov m_sm m_em m_lu m_lc m_wm m_li m_se m_sch m_sf m_sb m_sH m_tk m_sa m_tf m_tb m_tc m_tp m_be m_ou m_ru m_ra m_ma m_sA m_wH m_wB m_rH m_rB hj ht hl hfc hfm hB h
    obtain ⟨fm, rfl⟩ : ∃ x, fm = x + 1 := ⟨fm - 1, by omega⟩
    rw [c21_s]
    unfold F_X9_clock_21_s
    rw [if_neg (show ¬ nI n ≤ nI j from nI_ge (by omega) (by omega)), lt1_eq, nI_1 t, if_neg (nI_ne0 hd0 (by omega))]
    by_cases hb : d ≤ t + 1
    · have htd : t + (r + 1) = d + r := by omega
      have eL : l + (t + (r + 1)) / d = l + 1 + (0 + r) / d := by
        rw [htd, Nat.add_div_left r hd0, Nat.zero_add]
        omega
      have eM : (t + (r + 1)) % d = (0 + r) % d := by
        rw [htd, Nat.add_mod_left, Nat.zero_add]
      have hq0 : 0 ≤ (0 + r) / d := Nat.zero_le _
      have hfc' : (0 + r) / d + 1 < fc := by omega
      have hrd : (0 + r) / d ≤ 0 + r := Nat.div_le_self _ _
      obtain ⟨fc, rfl⟩ : ∃ x, fc = x + 1 := ⟨fc - 1, by omega⟩
      obtain ⟨ub, mb, b1, b2, b3⟩ := sim_beat (by omega) hn0 ho h
      obtain ⟨uc, um, i1, i2, i3, i4, i5, i6, i7⟩ := ih (j + 1) (l + 1) 0 fc fm (B + 1) ub.1 ub.2.1 ub.2.2.1 ub.2.2.2.1 ub.2.2.2.2.1 ub.2.2.2.2.2.1 ub.2.2.2.2.2.2.1 ub.2.2.2.2.2.2.2.1 ub.2.2.2.2.2.2.2.2.1 ub.2.2.2.2.2.2.2.2.2.1 ub.2.2.2.2.2.2.2.2.2.2.1 ub.2.2.2.2.2.2.2.2.2.2.2.1 ub.2.2.2.2.2.2.2.2.2.2.2.2.1 ub.2.2.2.2.2.2.2.2.2.2.2.2.2.1 ub.2.2.2.2.2.2.2.2.2.2.2.2.2.2.1 ub.2.2.2.2.2.2.2.2.2.2.2.2.2.2.2.1 ub.2.2.2.2.2.2.2.2.2.2.2.2.2.2.2.2.1 ub.2.2.2.2.2.2.2.2.2.2.2.2.2.2.2.2.2.1 ub.2.2.2.2.2.2.2.2.2.2.2.2.2.2.2.2.2.2.1 ub.2.2.2.2.2.2.2.2.2.2.2.2.2.2.2.2.2.2.2.1 ub.2.2.2.2.2.2.2.2.2.2.2.2.2.2.2.2.2.2.2.2.1 ub.2.2.2.2.2.2.2.2.2.2.2.2.2.2.2.2.2.2.2.2.2.1 ub.2.2.2.2.2.2.2.2.2.2.2.2.2.2.2.2.2.2.2.2.2.2.1 ub.2.2.2.2.2.2.2.2.2.2.2.2.2.2.2.2.2.2.2.2.2.2.2.1 ub.2.2.2.2.2.2.2.2.2.2.2.2.2.2.2.2.2.2.2.2.2.2.2.2.1 ub.2.2.2.2.2.2.2.2.2.2.2.2.2.2.2.2.2.2.2.2.2.2.2.2.2.1 ub.2.2.2.2.2.2.2.2.2.2.2.2.2.2.2.2.2.2.2.2.2.2.2.2.2.2.1 ub.2.2.2.2.2.2.2.2.2.2.2.2.2.2.2.2.2.2.2.2.2.2.2.2.2.2.2 mb.1 mb.2.1 mb.2.2.1 mb.2.2.2.1 mb.2.2.2.2.1 mb.2.2.2.2.2.1 mb.2.2.2.2.2.2.1 mb.2.2.2.2.2.2.2.1 mb.2.2.2.2.2.2.2.2.1 mb.2.2.2.2.2.2.2.2.2.1 mb.2.2.2.2.2.2.2.2.2.2.1 mb.2.2.2.2.2.2.2.2.2.2.2.1 mb.2.2.2.2.2.2.2.2.2.2.2.2.1 mb.2.2.2.2.2.2.2.2.2.2.2.2.2.1 mb.2.2.2.2.2.2.2.2.2.2.2.2.2.2.1 mb.2.2.2.2.2.2.2.2.2.2.2.2.2.2.2.1 mb.2.2.2.2.2.2.2.2.2.2.2.2.2.2.2.2.1 mb.2.2.2.2.2.2.2.2.2.2.2.2.2.2.2.2.2.1 mb.2.2.2.2.2.2.2.2.2.2.2.2.2.2.2.2.2.2.1 mb.2.2.2.2.2.2.2.2.2.2.2.2.2.2.2.2.2.2.2.1 mb.2.2.2.2.2.2.2.2.2.2.2.2.2.2.2.2.2.2.2.2.1 mb.2.2.2.2.2.2.2.2.2.2.2.2.2.2.2.2.2.2.2.2.2.1 mb.2.2.2.2.2.2.2.2.2.2.2.2.2.2.2.2.2.2.2.2.2.2.1 mb.2.2.2.2.2.2.2.2.2.2.2.2.2.2.2.2.2.2.2.2.2.2.2.1 mb.2.2.2.2.2.2.2.2.2.2.2.2.2.2.2.2.2.2.2.2.2.2.2.2.1 mb.2.2.2.2.2.2.2.2.2.2.2.2.2.2.2.2.2.2.2.2.2.2.2.2.2.1 mb.2.2.2.2.2.2.2.2.2.2.2.2.2.2.2.2.2.2.2.2.2.2.2.2.2.2.1 mb.2.2.2.2.2.2.2.2.2.2.2.2.2.2.2.2.2.2.2.2.2.2.2.2.2.2.2.1 mb.2.2.2.2.2.2.2.2.2.2.2.2.2.2.2.2.2.2.2.2.2.2.2.2.2.2.2.2 (by omega) hd0 (by omega) (by omega) (by omega) (by omega) b3
      rw [if_pos (nI_le hb (by omega)), b2, bd_some, lt1_eq, lt1_eq, nI_1 l, nI_1 j, eL, c23_s]
      unfold F_X8_clock_23_s
      rw [if_neg (show ¬ nI (l + 1 + (0 + r) / d) ≤ nI l from nI_ge (by omega) (by omega)), b1, bd_some, lt1_eq, nI_1 l, eM]
      rw [nI_0] at i2
      rw [show B + 1 + r = B + (r + 1) by omega] at i7
      exact ⟨uc, um, i1, i2, i3, i4, i5, i6, i7⟩
    · obtain ⟨uc, um, i1, i2, i3, i4, i5, i6, i7⟩ := ih (j + 1) l (t + 1) fc fm B c_ov c_em c_lu c_be c_qu c_rs c_ra c_sh c_ss c_sc c_sch c_sb c_sbu c_rc c_rch c_rb c_rbu c_rw c_rp c_rso c_lh c_wh c_ws c_wa c_ia c_uh c_us c_ua m_rm m_ov m_sm m_em m_lu m_lc m_wm m_li m_se m_sch m_sf m_sb m_sH m_tk m_sa m_tf m_tb m_tc m_tp m_be m_ou m_ru m_ra m_ma m_sA m_wH m_wB m_rH m_rB (by omega) (by omega) (by omega) (by rw [show t + 1 + r = t + (r + 1) by omega]; exact hfc) (by omega) (by omega) h
      rw [if_neg (show ¬ nI d ≤ nI (t + 1) from nI_ge (by omega) (by omega)), lt1_eq, nI_1 j]
      rw [show t + 1 + r = t + (r + 1) by omega] at i1 i5
      exact ⟨uc, um, i1, i2, i3, i4, i5, i6, rb_mono (by omega) i7⟩
theorem clk_zero (rowsOn : Bool) (form outs th l2 : Int32) {n : Nat} (hn : n ≤ 60000) (m_rm : Int32) (m_ov : Bool) (m_sm : Int32) (m_em : Bool) (m_lu : Bool) (m_lc : Int32) (m_wm : Int32) (m_li : Bool) (m_se : Bool) (m_sch : Int32) (m_sf : Int32) (m_sb : Int32) (m_sH : Bool) (m_tk : Bool) (m_sa : Bool) (m_tf : Int32) (m_tb : Int32) (m_tc : Int32) (m_tp : Int32) (m_be : Int32) (m_ou : Bool) (m_ru : Int32) (m_ra : (Nat → Int32)) (m_ma : (Nat → Int32)) (m_sA : (Nat → Int32)) (m_wH : (Nat → Bool)) (m_wB : (Nat → Int32)) (m_rH : (Nat → Bool)) (m_rB : (Nat → Int32)) : ∀ (r j t fm : Nat), j + r = n → r < fm → F_X9_clock_21 0 rowsOn form outs 16 16 16 500 500 40 40 fm (nI n) l2 (nI j) (nI t) m_rm m_ov m_sm m_em m_lu m_lc m_wm m_li m_se m_sch m_sf m_sb m_sH m_tk m_sa m_tf m_tb m_tc m_tp m_be m_ou m_ru th m_ra m_ma m_sA m_wH m_wB m_rH m_rB = some (l2, nI (t + r), m_rm, m_ov, m_sm, m_em, m_lu, m_lc, m_wm, m_li, m_se, m_sch, m_sf, m_sb, m_sH, m_tk, m_sa, m_tf, m_tb, m_tc, m_tp, m_be, m_ou, m_ru, th, m_ra, m_ma, m_sA, m_wH, m_wB, m_rH, m_rB) := by
  intro r
  induction r with
  | zero =>
    intro j t fm hj hfm
    obtain ⟨fm, rfl⟩ : ∃ x, fm = x + 1 := ⟨fm - 1, by omega⟩
    rw [c21_s]
    unfold F_X9_clock_21_s
    rw [if_pos (nI_le (show n ≤ j by omega) (by omega))]
    rfl
  | succ r ih =>
    intro j t fm hj hfm
    obtain ⟨fm, rfl⟩ : ∃ x, fm = x + 1 := ⟨fm - 1, by omega⟩
    rw [c21_s]
    unfold F_X9_clock_21_s
    rw [if_neg (show ¬ nI n ≤ nI j from nI_ge (by omega) (by omega)), lt1_eq, nI_1 t, if_pos rfl, lt1_eq, nI_1 j, ih (j + 1) (t + 1) fm (by omega) (by omega), show t + 1 + r = t + (r + 1) by omega]
theorem sim_clock {K B n0 o : Nat} (hK : K + B + 60000 < 2 ^ 28) (hn0 : n0 < 256) (ho : o < 32) (p th : Int32) {rowsOn : Bool} {rhead cd cp md mc : Int32} {sca : Nat → Int32} {c_ov : Bool} {c_em : Bool} {c_lu : Bool} {c_be : Int32} {c_qu : Int32} {c_rs : Int32} {c_ra : (Nat → Int32)} {c_sh : Int32} {c_ss : Int32} {c_sc : Int32} {c_sch : Int32} {c_sb : Int32} {c_sbu : Bool} {c_rc : Int32} {c_rch : Int32} {c_rb : Int32} {c_rbu : Bool} {c_rw : Bool} {c_rp : Bool} {c_rso : Bool} {c_lh : Bool} {c_wh : Int32} {c_ws : Int32} {c_wa : (Nat → Int32)} {c_ia : Int32} {c_uh : Int32} {c_us : Int32} {c_ua : (Nat → Int32)} {m_rm : Int32} {m_ov : Bool} {m_sm : Int32} {m_em : Bool} {m_lu : Bool} {m_lc : Int32} {m_wm : Int32} {m_li : Bool} {m_se : Bool} {m_sch : Int32} {m_sf : Int32} {m_sb : Int32} {m_sH : Bool} {m_tk : Bool} {m_sa : Bool} {m_tf : Int32} {m_tb : Int32} {m_tc : Int32} {m_tp : Int32} {m_be : Int32} {m_ou : Bool} {m_ru : Int32} {m_ra : (Nat → Int32)} {m_ma : (Nat → Int32)} {m_sA : (Nat → Int32)} {m_wH : (Nat → Bool)} {m_wB : (Nat → Int32)} {m_rH : (Nat → Bool)} {m_rB : (Nat → Int32)} (hD : RD K cd cp md mc) (h : RB B rowsOn rhead sca c_ov c_em c_lu c_be c_qu c_rs c_ra c_sh c_ss c_sc c_sch c_sb c_sbu c_rc c_rch c_rb c_rbu c_rw c_rp c_rso c_lh c_wh c_ws c_wa c_ia c_uh c_us c_ua m_rm m_ov m_sm m_em m_lu m_lc m_wm m_li m_se m_sch m_sf m_sb m_sH m_tk m_sa m_tf m_tb m_tc m_tp m_be m_ou m_ru m_ra m_ma m_sA m_wH m_wB m_rH m_rB) :
    ∃ uc um, F_X8_clock p (nI n0) rowsOn c_ov c_em c_lu c_be c_qu cd cp rhead c_rs 16 c_ra c_sh c_ss 16 sca c_sc c_sch c_sb c_sbu c_rc c_rch c_rb c_rbu c_rw c_rp c_rso (nI o) c_lh c_wh c_ws 500 c_wa c_ia c_uh c_us 40 c_ua = some uc ∧ F_X9_clock p md mc rowsOn (nI n0) (nI o) m_rm m_ov m_sm m_em m_lu m_lc m_wm m_li m_se m_sch m_sf m_sb m_sH m_tk m_sa m_tf m_tb m_tc m_tp m_be m_ou m_ru th 16 m_ra 16 m_ma 16 m_sA 500 m_wH 500 m_wB 40 m_rH 40 m_rB = some um ∧ uc.1 = um.1 ∧ RD (K + 60000) cd uc.2.2.2.2.2.2.1 md um.2.1 ∧ RB (B + 60000) rowsOn rhead sca uc.2.1 uc.2.2.1 uc.2.2.2.1 uc.2.2.2.2.1 uc.2.2.2.2.2.1 uc.2.2.2.2.2.2.2.1 uc.2.2.2.2.2.2.2.2.1 uc.2.2.2.2.2.2.2.2.2.1 uc.2.2.2.2.2.2.2.2.2.2.1 uc.2.2.2.2.2.2.2.2.2.2.2.1 uc.2.2.2.2.2.2.2.2.2.2.2.2.1 uc.2.2.2.2.2.2.2.2.2.2.2.2.2.1 uc.2.2.2.2.2.2.2.2.2.2.2.2.2.2.1 uc.2.2.2.2.2.2.2.2.2.2.2.2.2.2.2.1 uc.2.2.2.2.2.2.2.2.2.2.2.2.2.2.2.2.1 uc.2.2.2.2.2.2.2.2.2.2.2.2.2.2.2.2.2.1 uc.2.2.2.2.2.2.2.2.2.2.2.2.2.2.2.2.2.2.1 uc.2.2.2.2.2.2.2.2.2.2.2.2.2.2.2.2.2.2.2.1 uc.2.2.2.2.2.2.2.2.2.2.2.2.2.2.2.2.2.2.2.2.1 uc.2.2.2.2.2.2.2.2.2.2.2.2.2.2.2.2.2.2.2.2.2.1 uc.2.2.2.2.2.2.2.2.2.2.2.2.2.2.2.2.2.2.2.2.2.2.1 uc.2.2.2.2.2.2.2.2.2.2.2.2.2.2.2.2.2.2.2.2.2.2.2.1 uc.2.2.2.2.2.2.2.2.2.2.2.2.2.2.2.2.2.2.2.2.2.2.2.2.1 uc.2.2.2.2.2.2.2.2.2.2.2.2.2.2.2.2.2.2.2.2.2.2.2.2.2.1 uc.2.2.2.2.2.2.2.2.2.2.2.2.2.2.2.2.2.2.2.2.2.2.2.2.2.2.1 uc.2.2.2.2.2.2.2.2.2.2.2.2.2.2.2.2.2.2.2.2.2.2.2.2.2.2.2.1 uc.2.2.2.2.2.2.2.2.2.2.2.2.2.2.2.2.2.2.2.2.2.2.2.2.2.2.2.2.1 uc.2.2.2.2.2.2.2.2.2.2.2.2.2.2.2.2.2.2.2.2.2.2.2.2.2.2.2.2.2 um.2.2.1 um.2.2.2.1 um.2.2.2.2.1 um.2.2.2.2.2.1 um.2.2.2.2.2.2.1 um.2.2.2.2.2.2.2.1 um.2.2.2.2.2.2.2.2.1 um.2.2.2.2.2.2.2.2.2.1 um.2.2.2.2.2.2.2.2.2.2.1 um.2.2.2.2.2.2.2.2.2.2.2.1 um.2.2.2.2.2.2.2.2.2.2.2.2.1 um.2.2.2.2.2.2.2.2.2.2.2.2.2.1 um.2.2.2.2.2.2.2.2.2.2.2.2.2.2.1 um.2.2.2.2.2.2.2.2.2.2.2.2.2.2.2.1 um.2.2.2.2.2.2.2.2.2.2.2.2.2.2.2.2.1 um.2.2.2.2.2.2.2.2.2.2.2.2.2.2.2.2.2.1 um.2.2.2.2.2.2.2.2.2.2.2.2.2.2.2.2.2.2.1 um.2.2.2.2.2.2.2.2.2.2.2.2.2.2.2.2.2.2.2.1 um.2.2.2.2.2.2.2.2.2.2.2.2.2.2.2.2.2.2.2.2.1 um.2.2.2.2.2.2.2.2.2.2.2.2.2.2.2.2.2.2.2.2.2.1 um.2.2.2.2.2.2.2.2.2.2.2.2.2.2.2.2.2.2.2.2.2.2.1 um.2.2.2.2.2.2.2.2.2.2.2.2.2.2.2.2.2.2.2.2.2.2.2.1 um.2.2.2.2.2.2.2.2.2.2.2.2.2.2.2.2.2.2.2.2.2.2.2.2.2.1 um.2.2.2.2.2.2.2.2.2.2.2.2.2.2.2.2.2.2.2.2.2.2.2.2.2.2.1 um.2.2.2.2.2.2.2.2.2.2.2.2.2.2.2.2.2.2.2.2.2.2.2.2.2.2.2.1 um.2.2.2.2.2.2.2.2.2.2.2.2.2.2.2.2.2.2.2.2.2.2.2.2.2.2.2.2.1 um.2.2.2.2.2.2.2.2.2.2.2.2.2.2.2.2.2.2.2.2.2.2.2.2.2.2.2.2.2.1 um.2.2.2.2.2.2.2.2.2.2.2.2.2.2.2.2.2.2.2.2.2.2.2.2.2.2.2.2.2.2.1 um.2.2.2.2.2.2.2.2.2.2.2.2.2.2.2.2.2.2.2.2.2.2.2.2.2.2.2.2.2.2.2 := by
  have hD' : RD (K + 60000) cd cp md mc := by
    obtain ⟨d, d1, d2, d3, d4 | d4⟩ := hD
    · obtain ⟨d5, t, d6, d7⟩ := d4
      exact ⟨d, d1, d2, d3, Or.inl ⟨d5, t, d6, by omega⟩⟩
    · exact ⟨d, d1, d2, d3, Or.inr d4⟩
  have h' : RB (B + 60000) rowsOn rhead sca c_ov c_em c_lu c_be c_qu c_rs c_ra c_sh c_ss c_sc c_sch c_sb c_sbu c_rc c_rch c_rb c_rbu c_rw c_rp c_rso c_lh c_wh c_ws c_wa c_ia c_uh c_us c_ua m_rm m_ov m_sm m_em m_lu m_lc m_wm m_li m_se m_sch m_sf m_sb m_sH m_tk m_sa m_tf m_tb m_tc m_tp m_be m_ou m_ru m_ra m_ma m_sA m_wH m_wB m_rH m_rB := rb_mono (by omega) h
  unfold F_X8_clock F_X9_clock
  by_cases h1 : p < 0
  · rw [if_pos h1, if_pos h1]
    exact ⟨_, _, rfl, rfl, rfl, hD', h'⟩
  · rw [if_neg h1, if_neg h1]
    by_cases h2 : p ≤ 60000
    · rw [if_pos h2, if_pos h2]
      obtain ⟨n, hn1, rfl⟩ := nI_of h1
      have hn : n ≤ 60000 := (nI_leI (b := 60000) hn1 (by omega)).mp h2
      obtain ⟨u, e1, e2⟩ := rd_pass hD hn
      rw [e1, bd_some]
      obtain ⟨d, d1, d2, d3, d4⟩ := hD
      subst d2
      subst d3
      rcases d4 with ⟨d5, t, rfl, d7⟩ | ⟨d5, t, d6, rfl, rfl⟩
      · subst d5
        have eu : u = (0, cp) := by
          rcases e2 with ⟨_, z⟩ | ⟨d', t', z1, z2, z3, z4, z5, z6⟩
          · exact z
          · exact absurd ((nI_eq (by omega) (by omega)).mp z4) (by omega)
        subst eu
        have hz := clk_zero rowsOn (nI n0) (nI o) 0 0 hn m_rm m_ov m_sm m_em m_lu m_lc m_wm m_li m_se m_sch m_sf m_sb m_sH m_tk m_sa m_tf m_tb m_tc m_tp m_be m_ou m_ru m_ra m_ma m_sA m_wH m_wB m_rH m_rB n 0 t 100000 (by omega) (by omega)
        rw [nI_0] at hz
        rw [show (nI 0 : Int32) = 0 from rfl, hz, show (100000 : Nat) = 99999 + 1 from rfl, c23_s]
        unfold F_X8_clock_23_s
        rw [if_pos (show ((0 : Int32), cp).1 ≤ 0 from (by decide : (0 : Int32) ≤ 0))]
        exact ⟨_, _, rfl, rfl, rfl, ⟨0, by omega, rfl, rfl, Or.inl ⟨rfl, t + n, rfl, by omega⟩⟩, h'⟩
      · have eu : u = (nI ((t + n) / d), nI ((t + n) % d)) := by
          rcases e2 with ⟨z, _⟩ | ⟨d', t', z1, z2, z3, z4, z5, z6⟩
          · exact absurd z (nI_ne0 d5 (by omega))
          · rw [z6, (nI_eq (by omega) (by omega)).mp z4, (nI_eq (by omega) (by omega)).mp z5]
        subst eu
        have hdl : (t + n) / d ≤ t + n := Nat.div_le_self _ _
        have hdl2 : (t + n) / d < 100000 := by
          rcases Nat.lt_or_ge 1 d with q | q
          · have := Nat.div_le_div_left (a := t + n) (show 2 ≤ d from q) (by omega)
            omega
          · have : t = 0 := by omega
            omega
        obtain ⟨uc, um, i1, i2, i3, i4, i5, i6, i7⟩ := clk_loop hn0 ho d5 d1 hn rowsOn rhead sca (nI ((t + n) % d)) 0 n 0 0 t 100000 100000 B c_ov c_em c_lu c_be c_qu c_rs c_ra c_sh c_ss c_sc c_sch c_sb c_sbu c_rc c_rch c_rb c_rbu c_rw c_rp c_rso c_lh c_wh c_ws c_wa c_ia c_uh c_us c_ua m_rm m_ov m_sm m_em m_lu m_lc m_wm m_li m_se m_sch m_sf m_sb m_sH m_tk m_sa m_tf m_tb m_tc m_tp m_be m_ou m_ru m_ra m_ma m_sA m_wH m_wB m_rH m_rB (by omega) d6 (by omega) hdl2 (by omega) (by omega) h
        rw [Nat.zero_add, nI_0] at i1
        rw [nI_0] at i2
        refine ⟨uc, um, i1, i2, i3, ⟨d, d1, rfl, rfl, Or.inr ⟨d5, (t + n) % d, Nat.mod_lt _ d5, i4, i5⟩⟩, rb_mono (by omega) i7⟩
    · rw [if_neg h2, if_neg h2]
      exact ⟨_, _, rfl, rfl, rfl, hD', h'⟩
