/-! PURE: the modem's lines, on both sides. -/
def lo (o : Nat) : Nat := o / 2 % 2 + 2 * (o % 2) + o % 16 / 4 * 4
def ln (o i : Nat) : Nat := if o / 16 % 2 = 0 then i else lo o
theorem lo_lt (o : Nat) : lo o < 16 := by unfold lo; omega
theorem ln_lt {o i : Nat} (h : i < 16) : ln o i < 16 := by
  unfold ln
  split
  · exact h
  · exact lo_lt o
theorem md_tab : ∀ o : Fin 32, F_X3_looped (nI o.val) = some (nI (lo o.val)) ∧ (((((nI o.val) >>> ((1 : Int32) &&& 31)) &&& 1) + (2 * ((nI o.val) &&& 1))) + ((nI o.val) &&& 4)) + ((nI o.val) &&& 8) = nI (lo o.val) ∧ F_X3_loops (nI o.val) = some (!decide (o.val / 16 % 2 = 0)) := by decide +kernel
theorem md_ch : ∀ a b : Fin 16, ((nI a.val ^^^ nI b.val) &&& (-5)) = ((nI b.val ^^^ nI a.val) &&& 11) ∧ (((nI a.val ^^^ nI b.val) &&& nI b.val) &&& 4) = (if (nI b.val &&& 4) = 0 then 0 else if (nI a.val &&& 4) = 0 then 4 else 0) := by decide +kernel
def chg (ch was now : Int32) : Int32 := ch ||| (((now ^^^ was) &&& (-5)) ||| (((now ^^^ was) &&& was) &&& 4))
theorem md_loops {o : Nat} (h : o < 32) : F_X3_loops (nI o) = some (!decide (o / 16 % 2 = 0)) := (md_tab ⟨o, h⟩).2.2
theorem md_loopsM {o : Nat} (h : o < 32) : F_X9_loops (nI o) = some (!decide (o / 16 % 2 = 0)) := (md_tab ⟨o, h⟩).2.2
theorem md_lines {o i : Nat} (ho : o < 32) : F_X9_lines (nI o) (nI i) = some (nI (ln o i)) := by
  unfold F_X9_lines
  rw [md_loopsM ho, bd_some]
  unfold ln
  by_cases h : o / 16 % 2 = 0
  · rw [decide_eq_true h, if_pos h]; rfl
  · rw [decide_eq_false h, if_neg h]
    show some _ = some _
    rw [(md_tab ⟨o, ho⟩).2.1]
theorem md_follow {o i : Nat} (ho : o < 32) (st ch : Int32) : F_X3_follow (nI o) (nI i) st ch = some (nI (ln o i), chg ch st (nI (ln o i))) := by
  unfold F_X3_follow F_X3_follow_18
  rw [md_loops ho, bd_some]
  unfold ln
  by_cases h : o / 16 % 2 = 0
  · rw [decide_eq_true h, if_pos h]; rfl
  · rw [decide_eq_false h, if_neg h, (md_tab ⟨o, ho⟩).1]; rfl
theorem or_assoc32 (a b c : Int32) : (a ||| b) ||| c = a ||| (b ||| c) := by
  apply Int32.toBitVec_inj.mp
  simp [BitVec.or_assoc]
theorem or_zero32 (a : Int32) : a ||| 0 = a := by
  apply Int32.toBitVec_inj.mp
  simp
theorem or_comm32 (a b : Int32) : a ||| b = b ||| a := by
  apply Int32.toBitVec_inj.mp
  simp [BitVec.or_comm]
theorem md_notice {o i w : Nat} (ho : o < 32) (hi : i < 16) (hw : w < 16) (ch : Int32) : F_X9_notice (nI w) (nI o) (nI i) ch = some (chg ch (nI w) (nI (ln o i))) := by
  unfold F_X9_notice
  rw [md_lines ho, bd_some, lt1_eq, lt1_eq]
  have t := md_ch ⟨ln o i, ln_lt hi⟩ ⟨w, hw⟩
  have t1 : ((nI (ln o i) ^^^ nI w) &&& (-5)) = ((nI w ^^^ nI (ln o i)) &&& 11) := t.1
  have t2 : (((nI (ln o i) ^^^ nI w) &&& nI w) &&& 4) = (if (nI w &&& 4) = 0 then 0 else if (nI (ln o i) &&& 4) = 0 then 4 else 0) := t.2
  unfold chg
  rw [t1, t2]
  by_cases h1 : nI w &&& 4 = 0
  · rw [if_pos h1, if_pos h1, or_zero32]
  · rw [if_neg h1, if_neg h1]
    by_cases h2 : nI (ln o i) &&& 4 = 0
    · rw [if_pos h2, if_pos h2, lt1_eq, or_assoc32]
    · rw [if_neg h2, if_neg h2, or_zero32]
/-- the modem on both sides -/
def RM (c_o c_p c_s c_c m_o m_i m_c : Int32) : Prop := ∃ o i : Nat, o < 32 ∧ i < 16 ∧ c_o = nI o ∧ m_o = nI o ∧ c_p = nI i ∧ m_i = nI i ∧ c_s = nI (ln o i) ∧ c_c = m_c
theorem rm_pins {c_o c_p c_s c_c m_o m_i m_c : Int32} (h : RM c_o c_p c_s c_c m_o m_i m_c) {b : Nat} (hb : b < 16) : ∃ u w n, F_X3_putPins (nI b) c_o c_p c_s c_c = some u ∧ F_X9_lines m_o m_i = some w ∧ F_X9_notice w m_o (nI b) m_c = some n ∧ RM c_o u.1 u.2.1 u.2.2 m_o (nI b) n := by
  obtain ⟨o, i, ho, hi, rfl, rfl, rfl, rfl, rfl, rfl⟩ := h
  refine ⟨(nI b, nI (ln o b), chg c_c (nI (ln o i)) (nI (ln o b))), nI (ln o i), chg c_c (nI (ln o i)) (nI (ln o b)), ?_, md_lines ho, md_notice ho hb (ln_lt hi) _, o, b, ho, hb, rfl, rfl, rfl, rfl, rfl, rfl⟩
  unfold F_X3_putPins
  rw [md_follow ho, bd_some]
theorem rm_outs {c_o c_p c_s c_c m_o m_i m_c : Int32} (h : RM c_o c_p c_s c_c m_o m_i m_c) {b : Nat} (hb : b < 32) : ∃ u w n, F_X3_putOutputs (nI b) c_o c_p c_s c_c = some u ∧ F_X9_lines m_o m_i = some w ∧ F_X9_notice w (nI b) m_i m_c = some n ∧ RM u.1 c_p u.2.1 u.2.2 (nI b) m_i n := by
  obtain ⟨o, i, ho, hi, rfl, rfl, rfl, rfl, rfl, rfl⟩ := h
  refine ⟨(nI b, nI (ln b i), chg c_c (nI (ln o i)) (nI (ln b i))), nI (ln o i), chg c_c (nI (ln o i)) (nI (ln b i)), ?_, md_lines ho, md_notice hb hi (ln_lt hi) _, b, i, hb, hi, rfl, rfl, rfl, rfl, rfl, rfl⟩
  unfold F_X3_putOutputs
  rw [md_follow hb, bd_some]
