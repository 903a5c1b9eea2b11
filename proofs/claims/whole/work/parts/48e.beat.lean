/-! PURE: one beat, on both sides. -/
def RLt (rowsOn cu mu : Bool) (size beats quiet late : Int32) : Prop := rowsOn = true → (¬ size = 16 → cu = mu) ∧ (¬ size = 16 → ¬ size = 0 → late = beats - quiet)
def RB (B : Nat) (rowsOn : Bool) (rhead : Int32) (sca : Nat → Int32) (c_ov : Bool) (c_em : Bool) (c_lu : Bool) (c_be : Int32) (c_qu : Int32) (c_rs : Int32) (c_ra : (Nat → Int32)) (c_sh : Int32) (c_ss : Int32) (c_sc : Int32) (c_sch : Int32) (c_sb : Int32) (c_sbu : Bool) (c_rc : Int32) (c_rch : Int32) (c_rb : Int32) (c_rbu : Bool) (c_rw : Bool) (c_rp : Bool) (c_rso : Bool) (c_lh : Bool) (c_wh : Int32) (c_ws : Int32) (c_wa : (Nat → Int32)) (c_ia : Int32) (c_uh : Int32) (c_us : Int32) (c_ua : (Nat → Int32)) (m_rm : Int32) (m_ov : Bool) (m_sm : Int32) (m_em : Bool) (m_lu : Bool) (m_lc : Int32) (m_wm : Int32) (m_li : Bool) (m_se : Bool) (m_sch : Int32) (m_sf : Int32) (m_sb : Int32) (m_sH : Bool) (m_tk : Bool) (m_sa : Bool) (m_tf : Int32) (m_tb : Int32) (m_tc : Int32) (m_tp : Int32) (m_be : Int32) (m_ou : Bool) (m_ru : Int32) (m_ra : (Nat → Int32)) (m_ma : (Nat → Int32)) (m_sA : (Nat → Int32)) (m_wH : (Nat → Bool)) (m_wB : (Nat → Int32)) (m_rH : (Nat → Bool)) (m_rB : (Nat → Int32)) : Prop :=
  RS rowsOn c_sh c_ss sca m_sm m_sA ∧ RN c_sc c_sch c_sb c_sbu m_se m_sch m_sf m_sb ∧ RU B c_ia c_uh c_us c_ua m_ru m_rH m_rB m_ou ∧ RW c_lh m_li c_wh c_ws c_wa m_wm m_wH m_wB ∧ RR rowsOn rhead c_rs c_ra m_rm m_ra m_ma ∧ RC c_rc c_rch c_rb c_rbu c_rw c_rp c_rso m_tk m_sa m_tf m_tb m_tc m_tp ∧ RLt rowsOn c_lu m_lu c_rs c_be c_qu m_lc ∧ c_ov = m_ov ∧ c_em = m_em ∧ c_be = m_be
theorem rr_k {rowsOn : Bool} {head size many : Int32} {a rc mk : Nat → Int32} (h : RR rowsOn head size a many rc mk) : ∃ k : Nat, k ≤ 16 ∧ size = nI k ∧ many = nI k := by
  obtain ⟨k, cs, ms, hR, rfl, hw, hr⟩ := h
  exact ⟨k, hR.le, hR.size, rfl⟩
theorem put_16 {c m late : Int32} {ov : Bool} {rc mk : Nat → Int32} {um : Int32 × Bool × Int32 × (Nat → Int32) × (Nat → Int32)} (h : F_X9_put c m true (nI 16) ov late 16 rc 16 mk = some um) : um.1 = nI 16 := by
  have e : F_X9_put c m true (nI 16) ov late 16 rc 16 mk = some (nI 16, true, late, rc, mk) := by
    unfold F_X9_put F_X9_room
    rw [bt_true, bd_some, if_pos (show nI 16 = 16 from rfl), bt_true]
  rw [e] at h
  cases h
  rfl
theorem step_late {n0 : Nat} (hn0 : n0 < 256) (rowsOn cu : Bool) (beats quiet : Int32) {k : Nat} (hk : k ≤ 16) : ∃ cu', F_X8_stepLate (nI n0) rowsOn cu beats quiet (nI k) = some cu' ∧ (rowsOn = true → (k = 0 → cu' = cu) ∧ (¬ k = 0 → cu' = if beats - quiet < 4 * nI (fl n0) then cu else true)) := by
  unfold F_X8_stepLate F_X5_isEmpty
  cases rowsOn with
  | false => exact ⟨cu, rfl, fun q => by cases q⟩
  | true =>
    rw [bt_true, sh_beats hn0]
    by_cases h0 : k = 0
    · subst h0
      exact ⟨cu, rfl, fun _ => ⟨fun _ => rfl, fun q => absurd rfl q⟩⟩
    · rw [if_neg (nI_ne0 (by omega) (by omega)), bd_some, bt_false, bd_some]
      by_cases hl : beats - quiet < 4 * nI (fl n0)
      · rw [if_pos hl]
        exact ⟨cu, rfl, fun _ => ⟨fun q => absurd q h0, fun _ => (if_pos hl).symm⟩⟩
      · rw [if_neg hl]
        exact ⟨true, rfl, fun _ => ⟨fun q => absurd q h0, fun _ => (if_neg hl).symm⟩⟩
theorem late_add (b q : Int32) : b + 1 - q = b - q + 1 := by
  rw [Int32.sub_eq_add_neg, Int32.sub_eq_add_neg, Int32.add_assoc, Int32.add_comm 1, ← Int32.add_assoc]
theorem nI_nm1 {x : Nat} (h : x < 2 ^ 31) : ¬ nI x = -1 := fun q => nI_pos h (by rw [q]; decide)
theorem sim_beat2 {B n0 o : Nat} (hB : B < 2 ^ 28) (hn0 : n0 < 256) (ho : o < 32) (p s : Bool) {rowsOn : Bool} {rhead : Int32} {sca : Nat → Int32} {c_ov : Bool} {c_em : Bool} {c_lu : Bool} {c_be : Int32} {c_qu : Int32} {c_rs : Int32} {c_ra : (Nat → Int32)} {c_sh : Int32} {c_ss : Int32} {c_sc : Int32} {c_sch : Int32} {c_sb : Int32} {c_sbu : Bool} {c_rc : Int32} {c_rch : Int32} {c_rb : Int32} {c_rbu : Bool} {c_rw : Bool} {c_rp : Bool} {c_rso : Bool} {c_lh : Bool} {c_wh : Int32} {c_ws : Int32} {c_wa : (Nat → Int32)} {c_ia : Int32} {c_uh : Int32} {c_us : Int32} {c_ua : (Nat → Int32)} {m_rm : Int32} {m_sm : Int32} {m_lu : Bool} {m_lc : Int32} {m_wm : Int32} {m_li : Bool} {m_se : Bool} {m_sch : Int32} {m_sf : Int32} {m_sb : Int32} {m_tk : Bool} {m_sa : Bool} {m_tf : Int32} {m_tb : Int32} {m_tc : Int32} {m_tp : Int32} {m_ou : Bool} {m_ru : Int32} {m_ra : (Nat → Int32)} {m_ma : (Nat → Int32)} {m_sA : (Nat → Int32)} {m_wH : (Nat → Bool)} {m_wB : (Nat → Int32)} {m_rH : (Nat → Bool)} {m_rB : (Nat → Int32)} (hS : RS rowsOn c_sh c_ss sca m_sm m_sA) (hN : RN c_sc c_sch c_sb c_sbu m_se m_sch m_sf m_sb) (hU : RU B c_ia c_uh c_us c_ua m_ru m_rH m_rB m_ou) (hW : RW c_lh m_li c_wh c_ws c_wa m_wm m_wH m_wB) (hRR : RR rowsOn rhead c_rs c_ra m_rm m_ra m_ma) (hC : RC c_rc c_rch c_rb c_rbu c_rw c_rp c_rso m_tk m_sa m_tf m_tb m_tc m_tp) (hL : RLt rowsOn c_lu m_lu c_rs c_be c_qu m_lc) :
    ∃ uc um, F_X8_beat_50 (nI n0) rowsOn rhead 16 16 sca (nI o) 500 40 p s (!decide (o / 16 % 2 = 0)) c_ov c_em c_lu (c_be + 1) c_qu c_rs c_ra c_sh c_ss c_sc c_sch c_sb c_sbu c_rc c_rch c_rb c_rbu c_rw c_rp c_rso c_lh c_wh c_ws c_wa c_ia c_uh c_us c_ua = some uc ∧ F_X9_beat_44 rowsOn (nI n0) (nI o) 16 16 16 500 500 40 40 p m_rm c_ov m_sm c_em m_lu m_lc m_wm m_li m_se m_sch m_sf m_sb s m_tk m_sa m_tf m_tb m_tc m_tp (c_be + 1) m_ou m_ru m_ra m_ma m_sA m_wH m_wB m_rH m_rB = some um ∧ RB (B + 1) rowsOn rhead sca uc.1 uc.2.1 uc.2.2.1 uc.2.2.2.1 uc.2.2.2.2.1 uc.2.2.2.2.2.1 uc.2.2.2.2.2.2.1 uc.2.2.2.2.2.2.2.1 uc.2.2.2.2.2.2.2.2.1 uc.2.2.2.2.2.2.2.2.2.1 uc.2.2.2.2.2.2.2.2.2.2.1 uc.2.2.2.2.2.2.2.2.2.2.2.1 uc.2.2.2.2.2.2.2.2.2.2.2.2.1 uc.2.2.2.2.2.2.2.2.2.2.2.2.2.1 uc.2.2.2.2.2.2.2.2.2.2.2.2.2.2.1 uc.2.2.2.2.2.2.2.2.2.2.2.2.2.2.2.1 uc.2.2.2.2.2.2.2.2.2.2.2.2.2.2.2.2.1 uc.2.2.2.2.2.2.2.2.2.2.2.2.2.2.2.2.2.1 uc.2.2.2.2.2.2.2.2.2.2.2.2.2.2.2.2.2.2.1 uc.2.2.2.2.2.2.2.2.2.2.2.2.2.2.2.2.2.2.2.1 uc.2.2.2.2.2.2.2.2.2.2.2.2.2.2.2.2.2.2.2.2.1 uc.2.2.2.2.2.2.2.2.2.2.2.2.2.2.2.2.2.2.2.2.2.1 uc.2.2.2.2.2.2.2.2.2.2.2.2.2.2.2.2.2.2.2.2.2.2.1 uc.2.2.2.2.2.2.2.2.2.2.2.2.2.2.2.2.2.2.2.2.2.2.2.1 uc.2.2.2.2.2.2.2.2.2.2.2.2.2.2.2.2.2.2.2.2.2.2.2.2.1 uc.2.2.2.2.2.2.2.2.2.2.2.2.2.2.2.2.2.2.2.2.2.2.2.2.2.1 uc.2.2.2.2.2.2.2.2.2.2.2.2.2.2.2.2.2.2.2.2.2.2.2.2.2.2.1 uc.2.2.2.2.2.2.2.2.2.2.2.2.2.2.2.2.2.2.2.2.2.2.2.2.2.2.2 um.1 um.2.1 um.2.2.1 um.2.2.2.1 um.2.2.2.2.1 um.2.2.2.2.2.1 um.2.2.2.2.2.2.1 um.2.2.2.2.2.2.2.1 um.2.2.2.2.2.2.2.2.1 um.2.2.2.2.2.2.2.2.2.1 um.2.2.2.2.2.2.2.2.2.2.1 um.2.2.2.2.2.2.2.2.2.2.2.1 um.2.2.2.2.2.2.2.2.2.2.2.2.1 um.2.2.2.2.2.2.2.2.2.2.2.2.2.1 um.2.2.2.2.2.2.2.2.2.2.2.2.2.2.1 um.2.2.2.2.2.2.2.2.2.2.2.2.2.2.2.1 um.2.2.2.2.2.2.2.2.2.2.2.2.2.2.2.2.1 um.2.2.2.2.2.2.2.2.2.2.2.2.2.2.2.2.2.1 um.2.2.2.2.2.2.2.2.2.2.2.2.2.2.2.2.2.2.1 um.2.2.2.2.2.2.2.2.2.2.2.2.2.2.2.2.2.2.2.1 um.2.2.2.2.2.2.2.2.2.2.2.2.2.2.2.2.2.2.2.2.1 um.2.2.2.2.2.2.2.2.2.2.2.2.2.2.2.2.2.2.2.2.2.1 um.2.2.2.2.2.2.2.2.2.2.2.2.2.2.2.2.2.2.2.2.2.2.1 um.2.2.2.2.2.2.2.2.2.2.2.2.2.2.2.2.2.2.2.2.2.2.2.1 um.2.2.2.2.2.2.2.2.2.2.2.2.2.2.2.2.2.2.2.2.2.2.2.2.1 um.2.2.2.2.2.2.2.2.2.2.2.2.2.2.2.2.2.2.2.2.2.2.2.2.2.1 um.2.2.2.2.2.2.2.2.2.2.2.2.2.2.2.2.2.2.2.2.2.2.2.2.2.2.1 um.2.2.2.2.2.2.2.2.2.2.2.2.2.2.2.2.2.2.2.2.2.2.2.2.2.2.2.1 um.2.2.2.2.2.2.2.2.2.2.2.2.2.2.2.2.2.2.2.2.2.2.2.2.2.2.2.2 := by
  obtain ⟨ua, ma, a1, a2, a3⟩ := sim_say hB p hU
  obtain ⟨uw, mw, w1, w2, w3, w4⟩ := sim_come hW
  unfold F_X8_beat_50 F_X9_beat_44 F_X9_receive
  rw [a1, bd_some, w1, bd_some, a2, bd_some, w2, bd_some, md_loopsM ho, bd_some]
  by_cases hlp : o / 16 % 2 = 0
  · rw [decide_eq_true hlp, Bool.not_true, bt_false, bt_false, w3]
    obtain ⟨ur, r1, r2⟩ := sim_step hn0 mw.2.1 rowsOn mw.2.1 s c_ov (nI o) m_rm m_lc m_ra m_ma hC
    unfold F_X8_beat_74
    rw [r1, bd_some]
    rcases r2 with ⟨q1, um, q2, q3⟩ | ⟨c, m, tf', tb', tc', tp', hc, hm, hm4, q1, q2, q3⟩
    · rw [if_pos q1, q2, bd_some]
      obtain ⟨k, hk, rfl, rfl⟩ := rr_k hRR
      obtain ⟨cu', l1, l2⟩ := step_late hn0 rowsOn c_lu (c_be + 1) c_qu hk
      unfold F_X8_beat_95
      rw [l1, bd_some]
      by_cases hk0 : k = 0
      · subst hk0
        rw [if_pos (show nI 0 = 0 from rfl)]
        exact ⟨_, _, rfl, rfl, hS, hN, a3, w4, hRR, q3, fun hr => ⟨fun q => ((l2 hr).1 rfl).trans ((hL hr).1 q), fun _ q => absurd rfl q⟩, rfl, rfl, rfl⟩
      · rw [if_neg (nI_ne0 (by omega) (by omega)), lt1_eq, sh_frame hn0, bd_some]
        have hfin : ∀ mu' : Bool, (mu' = if m_lc + 1 < 4 * nI (fl n0) then m_lu else true) → RLt rowsOn cu' mu' (nI k) (c_be + 1) c_qu (m_lc + 1) := fun mu' hmu hr => by
          refine ⟨fun q => ?_, fun q1 q2 => ?_⟩
          · rw [(l2 hr).2 hk0, hmu, (hL hr).2 q (nI_ne0 (by omega) (by omega)), late_add, (hL hr).1 q]
          · rw [(hL hr).2 q1 q2, late_add]
        by_cases hlt : m_lc + 1 < 4 * nI (fl n0)
        · rw [if_pos hlt]
          exact ⟨_, _, rfl, rfl, hS, hN, a3, w4, hRR, q3, hfin m_lu (if_pos hlt).symm, rfl, rfl, rfl⟩
        · rw [if_neg hlt]
          exact ⟨_, _, rfl, rfl, hS, hN, a3, w4, hRR, q3, hfin true (if_neg hlt).symm, rfl, rfl, rfl⟩
    · obtain ⟨uc, um, p1, p2, p3, p4, p5, p6, p7⟩ := sim_put (ov := c_ov) (beats := c_be + 1) (quiet := c_qu) (late := m_lc) hc hm hm4 hRR
      rw [if_neg (by rw [q1]; exact nI_nm1 (by omega)), q1, p1, bd_some, q2, p2, bd_some, bd_some]
      obtain ⟨k0, hk0', rfl, rfl⟩ := rr_k hRR
      obtain ⟨k, hk, e1, e2⟩ := rr_k p5
      obtain ⟨cu', l1, l2⟩ := step_late hn0 rowsOn c_lu (c_be + 1) uc.2.1 hk
      unfold F_X8_beat_95
      rw [e1, l1, bd_some]
      dsimp only
      have hk0 : ¬ k = 0 := fun q => p7 (by rw [e2, q]; rfl)
      rw [if_neg p7, lt1_eq, sh_frame hn0, bd_some]
      have hfin : ∀ mu' : Bool, (mu' = if um.2.2.1 + 1 < 4 * nI (fl n0) then m_lu else true) → RLt rowsOn cu' mu' (nI k) (c_be + 1) uc.2.1 (um.2.2.1 + 1) := fun mu' hmu hr => by
        have h16 : ¬ nI k = 16 → ¬ nI k0 = 16 ∧ um.2.2.1 + 1 = c_be + 1 - uc.2.1 := fun q => by
          refine ⟨fun z => ?_, ?_⟩
          · have zk : nI k0 = nI 16 := z
            rw [hr, zk] at p2
            exact q (e2.symm.trans (put_16 p2))
          · rcases p6 with p6 | ⟨p6, p6'⟩
            · rw [p6, p4, Int32.sub_self]
              decide
            · exact absurd (e2.symm.trans p6) q
        refine ⟨fun q => ?_, fun q1 q2 => (h16 q1).2⟩
        rw [(l2 hr).2 hk0, hmu, (h16 q).2, (hL hr).1 (h16 q).1]
      rw [e1] at p5
      by_cases hlt : um.2.2.1 + 1 < 4 * nI (fl n0)
      · rw [if_pos hlt]
        exact ⟨_, _, rfl, rfl, hS, hN, a3, w4, p5, q3, hfin m_lu (if_pos hlt).symm, p3, rfl, rfl⟩
      · rw [if_neg hlt]
        exact ⟨_, _, rfl, rfl, hS, hN, a3, w4, p5, q3, hfin true (if_neg hlt).symm, p3, rfl, rfl⟩
  · rw [decide_eq_false hlp, Bool.not_false, bt_true, bt_true]
    obtain ⟨ur, r1, r2⟩ := sim_step hn0 s rowsOn mw.2.1 s c_ov (nI o) m_rm m_lc m_ra m_ma hC
    unfold F_X8_beat_74
    rw [r1, bd_some]
    rcases r2 with ⟨q1, um, q2, q3⟩ | ⟨c, m, tf', tb', tc', tp', hc, hm, hm4, q1, q2, q3⟩
    · rw [if_pos q1, q2, bd_some]
      obtain ⟨k, hk, rfl, rfl⟩ := rr_k hRR
      obtain ⟨cu', l1, l2⟩ := step_late hn0 rowsOn c_lu (c_be + 1) c_qu hk
      unfold F_X8_beat_95
      rw [l1, bd_some]
      by_cases hk0 : k = 0
      · subst hk0
        rw [if_pos (show nI 0 = 0 from rfl)]
        exact ⟨_, _, rfl, rfl, hS, hN, a3, w4, hRR, q3, fun hr => ⟨fun q => ((l2 hr).1 rfl).trans ((hL hr).1 q), fun _ q => absurd rfl q⟩, rfl, rfl, rfl⟩
      · rw [if_neg (nI_ne0 (by omega) (by omega)), lt1_eq, sh_frame hn0, bd_some]
        have hfin : ∀ mu' : Bool, (mu' = if m_lc + 1 < 4 * nI (fl n0) then m_lu else true) → RLt rowsOn cu' mu' (nI k) (c_be + 1) c_qu (m_lc + 1) := fun mu' hmu hr => by
          refine ⟨fun q => ?_, fun q1 q2 => ?_⟩
          · rw [(l2 hr).2 hk0, hmu, (hL hr).2 q (nI_ne0 (by omega) (by omega)), late_add, (hL hr).1 q]
          · rw [(hL hr).2 q1 q2, late_add]
        by_cases hlt : m_lc + 1 < 4 * nI (fl n0)
        · rw [if_pos hlt]
          exact ⟨_, _, rfl, rfl, hS, hN, a3, w4, hRR, q3, hfin m_lu (if_pos hlt).symm, rfl, rfl, rfl⟩
        · rw [if_neg hlt]
          exact ⟨_, _, rfl, rfl, hS, hN, a3, w4, hRR, q3, hfin true (if_neg hlt).symm, rfl, rfl, rfl⟩
    · obtain ⟨uc, um, p1, p2, p3, p4, p5, p6, p7⟩ := sim_put (ov := c_ov) (beats := c_be + 1) (quiet := c_qu) (late := m_lc) hc hm hm4 hRR
      rw [if_neg (by rw [q1]; exact nI_nm1 (by omega)), q1, p1, bd_some, q2, p2, bd_some, bd_some]
      obtain ⟨k0, hk0', rfl, rfl⟩ := rr_k hRR
      obtain ⟨k, hk, e1, e2⟩ := rr_k p5
      obtain ⟨cu', l1, l2⟩ := step_late hn0 rowsOn c_lu (c_be + 1) uc.2.1 hk
      unfold F_X8_beat_95
      rw [e1, l1, bd_some]
      dsimp only
      have hk0 : ¬ k = 0 := fun q => p7 (by rw [e2, q]; rfl)
      rw [if_neg p7, lt1_eq, sh_frame hn0, bd_some]
      have hfin : ∀ mu' : Bool, (mu' = if um.2.2.1 + 1 < 4 * nI (fl n0) then m_lu else true) → RLt rowsOn cu' mu' (nI k) (c_be + 1) uc.2.1 (um.2.2.1 + 1) := fun mu' hmu hr => by
        have h16 : ¬ nI k = 16 → ¬ nI k0 = 16 ∧ um.2.2.1 + 1 = c_be + 1 - uc.2.1 := fun q => by
          refine ⟨fun z => ?_, ?_⟩
          · have zk : nI k0 = nI 16 := z
            rw [hr, zk] at p2
            exact q (e2.symm.trans (put_16 p2))
          · rcases p6 with p6 | ⟨p6, p6'⟩
            · rw [p6, p4, Int32.sub_self]
              decide
            · exact absurd (e2.symm.trans p6) q
        refine ⟨fun q => ?_, fun q1 q2 => (h16 q1).2⟩
        rw [(l2 hr).2 hk0, hmu, (h16 q).2, (hL hr).1 (h16 q).1]
      rw [e1] at p5
      by_cases hlt : um.2.2.1 + 1 < 4 * nI (fl n0)
      · rw [if_pos hlt]
        exact ⟨_, _, rfl, rfl, hS, hN, a3, w4, p5, q3, hfin m_lu (if_pos hlt).symm, p3, rfl, rfl⟩
      · rw [if_neg hlt]
        exact ⟨_, _, rfl, rfl, hS, hN, a3, w4, p5, q3, hfin true (if_neg hlt).symm, p3, rfl, rfl⟩
theorem sim_beat {B n0 o : Nat} (hB : B < 2 ^ 28) (hn0 : n0 < 256) (ho : o < 32) {rowsOn : Bool} {rhead : Int32} {sca : Nat → Int32} {c_ov : Bool} {c_em : Bool} {c_lu : Bool} {c_be : Int32} {c_qu : Int32} {c_rs : Int32} {c_ra : (Nat → Int32)} {c_sh : Int32} {c_ss : Int32} {c_sc : Int32} {c_sch : Int32} {c_sb : Int32} {c_sbu : Bool} {c_rc : Int32} {c_rch : Int32} {c_rb : Int32} {c_rbu : Bool} {c_rw : Bool} {c_rp : Bool} {c_rso : Bool} {c_lh : Bool} {c_wh : Int32} {c_ws : Int32} {c_wa : (Nat → Int32)} {c_ia : Int32} {c_uh : Int32} {c_us : Int32} {c_ua : (Nat → Int32)} {m_rm : Int32} {m_ov : Bool} {m_sm : Int32} {m_em : Bool} {m_lu : Bool} {m_lc : Int32} {m_wm : Int32} {m_li : Bool} {m_se : Bool} {m_sch : Int32} {m_sf : Int32} {m_sb : Int32} {m_sH : Bool} {m_tk : Bool} {m_sa : Bool} {m_tf : Int32} {m_tb : Int32} {m_tc : Int32} {m_tp : Int32} {m_be : Int32} {m_ou : Bool} {m_ru : Int32} {m_ra : (Nat → Int32)} {m_ma : (Nat → Int32)} {m_sA : (Nat → Int32)} {m_wH : (Nat → Bool)} {m_wB : (Nat → Int32)} {m_rH : (Nat → Bool)} {m_rB : (Nat → Int32)} (h : RB B rowsOn rhead sca c_ov c_em c_lu c_be c_qu c_rs c_ra c_sh c_ss c_sc c_sch c_sb c_sbu c_rc c_rch c_rb c_rbu c_rw c_rp c_rso c_lh c_wh c_ws c_wa c_ia c_uh c_us c_ua m_rm m_ov m_sm m_em m_lu m_lc m_wm m_li m_se m_sch m_sf m_sb m_sH m_tk m_sa m_tf m_tb m_tc m_tp m_be m_ou m_ru m_ra m_ma m_sA m_wH m_wB m_rH m_rB) :
    ∃ uc um, F_X8_beat (nI n0) rowsOn c_ov c_em c_lu c_be c_qu rhead c_rs 16 c_ra c_sh c_ss 16 sca c_sc c_sch c_sb c_sbu c_rc c_rch c_rb c_rbu c_rw c_rp c_rso (nI o) c_lh c_wh c_ws 500 c_wa c_ia c_uh c_us 40 c_ua = some uc ∧ F_X9_beat rowsOn (nI n0) (nI o) m_rm m_ov m_sm m_em m_lu m_lc m_wm m_li m_se m_sch m_sf m_sb m_sH m_tk m_sa m_tf m_tb m_tc m_tp m_be m_ou m_ru 16 m_ra 16 m_ma 16 m_sA 500 m_wH 500 m_wB 40 m_rH 40 m_rB = some um ∧ RB (B + 1) rowsOn rhead sca uc.1 uc.2.1 uc.2.2.1 uc.2.2.2.1 uc.2.2.2.2.1 uc.2.2.2.2.2.1 uc.2.2.2.2.2.2.1 uc.2.2.2.2.2.2.2.1 uc.2.2.2.2.2.2.2.2.1 uc.2.2.2.2.2.2.2.2.2.1 uc.2.2.2.2.2.2.2.2.2.2.1 uc.2.2.2.2.2.2.2.2.2.2.2.1 uc.2.2.2.2.2.2.2.2.2.2.2.2.1 uc.2.2.2.2.2.2.2.2.2.2.2.2.2.1 uc.2.2.2.2.2.2.2.2.2.2.2.2.2.2.1 uc.2.2.2.2.2.2.2.2.2.2.2.2.2.2.2.1 uc.2.2.2.2.2.2.2.2.2.2.2.2.2.2.2.2.1 uc.2.2.2.2.2.2.2.2.2.2.2.2.2.2.2.2.2.1 uc.2.2.2.2.2.2.2.2.2.2.2.2.2.2.2.2.2.2.1 uc.2.2.2.2.2.2.2.2.2.2.2.2.2.2.2.2.2.2.2.1 uc.2.2.2.2.2.2.2.2.2.2.2.2.2.2.2.2.2.2.2.2.1 uc.2.2.2.2.2.2.2.2.2.2.2.2.2.2.2.2.2.2.2.2.2.1 uc.2.2.2.2.2.2.2.2.2.2.2.2.2.2.2.2.2.2.2.2.2.2.1 uc.2.2.2.2.2.2.2.2.2.2.2.2.2.2.2.2.2.2.2.2.2.2.2.1 uc.2.2.2.2.2.2.2.2.2.2.2.2.2.2.2.2.2.2.2.2.2.2.2.2.1 uc.2.2.2.2.2.2.2.2.2.2.2.2.2.2.2.2.2.2.2.2.2.2.2.2.2.1 uc.2.2.2.2.2.2.2.2.2.2.2.2.2.2.2.2.2.2.2.2.2.2.2.2.2.2.1 uc.2.2.2.2.2.2.2.2.2.2.2.2.2.2.2.2.2.2.2.2.2.2.2.2.2.2.2 um.1 um.2.1 um.2.2.1 um.2.2.2.1 um.2.2.2.2.1 um.2.2.2.2.2.1 um.2.2.2.2.2.2.1 um.2.2.2.2.2.2.2.1 um.2.2.2.2.2.2.2.2.1 um.2.2.2.2.2.2.2.2.2.1 um.2.2.2.2.2.2.2.2.2.2.1 um.2.2.2.2.2.2.2.2.2.2.2.1 um.2.2.2.2.2.2.2.2.2.2.2.2.1 um.2.2.2.2.2.2.2.2.2.2.2.2.2.1 um.2.2.2.2.2.2.2.2.2.2.2.2.2.2.1 um.2.2.2.2.2.2.2.2.2.2.2.2.2.2.2.1 um.2.2.2.2.2.2.2.2.2.2.2.2.2.2.2.2.1 um.2.2.2.2.2.2.2.2.2.2.2.2.2.2.2.2.2.1 um.2.2.2.2.2.2.2.2.2.2.2.2.2.2.2.2.2.2.1 um.2.2.2.2.2.2.2.2.2.2.2.2.2.2.2.2.2.2.2.1 um.2.2.2.2.2.2.2.2.2.2.2.2.2.2.2.2.2.2.2.2.1 um.2.2.2.2.2.2.2.2.2.2.2.2.2.2.2.2.2.2.2.2.2.1 um.2.2.2.2.2.2.2.2.2.2.2.2.2.2.2.2.2.2.2.2.2.2.1 um.2.2.2.2.2.2.2.2.2.2.2.2.2.2.2.2.2.2.2.2.2.2.2.1 um.2.2.2.2.2.2.2.2.2.2.2.2.2.2.2.2.2.2.2.2.2.2.2.2.1 um.2.2.2.2.2.2.2.2.2.2.2.2.2.2.2.2.2.2.2.2.2.2.2.2.2.1 um.2.2.2.2.2.2.2.2.2.2.2.2.2.2.2.2.2.2.2.2.2.2.2.2.2.2.1 um.2.2.2.2.2.2.2.2.2.2.2.2.2.2.2.2.2.2.2.2.2.2.2.2.2.2.2.1 um.2.2.2.2.2.2.2.2.2.2.2.2.2.2.2.2.2.2.2.2.2.2.2.2.2.2.2.2 := by
  obtain ⟨hS, hN, hU, hW, hRR, hC, hL, rfl, rfl, rfl⟩ := h
  obtain ⟨us, ms, s1, s2, s3, s4, s5, s6⟩ := sim_send (e := c_em) (sh := m_sH) hn0 rfl hS hN
  unfold F_X8_beat F_X9_beat
  rw [lt1_eq, lt1_eq, s1, bd_some, s2, bd_some, md_loops ho, bd_some, md_loopsM ho, bd_some, ← s3, ← s4]
  have k1 := sim_beat2 hB hn0 ho true us.1 s5 s6 hU hW hRR hC hL (c_ov := c_ov) (c_em := us.2.1)
  have k2 := sim_beat2 hB hn0 ho false us.1 s5 s6 hU hW hRR hC hL (c_ov := c_ov) (c_em := us.2.1)
  generalize hlp : (!decide (o / 16 % 2 = 0)) = lp at k1 k2
  generalize us.1 = s at k1 k2 ⊢
  cases lp with
  | true =>
    rw [bt_true, bt_true]
    exact k1
  | false =>
    rw [bt_false, bt_false]
    cases s with
    | false =>
      rw [bt_false, bt_false]
      exact k2
    | true =>
      rw [bt_true, bt_true]
      by_cases h6 : nI n0 &&& 64 = 0
      · rw [if_pos h6, if_pos h6]
        exact k1
      · rw [if_neg h6, if_neg h6]
        exact k2
