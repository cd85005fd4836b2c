/-! SENTENCES: plain values -/
theorem op_isCell (a : Int32) : DX8_isCell a = DX7_isCell a := rfl
theorem op_isHour (a : Int32) : DX8_isHour a = DX7_isHour a := rfl
theorem op_areHours (a b : Int32) : DX8_areHours a b = DX7_areHours a b := by
  have q0 : (0 : Int32).toInt = 0 := rfl
  have q240 : (240 : Int32).toInt = 240 := rfl
  unfold DX8_areHours DX7_areHours DX8_isHour
  by_cases a0 : a < 0
  · rw [if_pos a0, if_pos a0, if_pos rfl]
  · rw [if_neg a0, if_neg a0]
    by_cases ab : b < a
    · rw [if_pos ab, if_pos ab]
      have r : ∀ c d : Prop, ∀ [Decidable c] [Decidable d], (if c then (0 : Int32) else if d then 0 else 0) = 0 := by
        intro c d _ _
        by_cases hc : c
        · rw [if_pos hc]
        · rw [if_neg hc]
          by_cases hd : d
          · rw [if_pos hd]
          · rw [if_neg hd]
      exact r _ _
    · rw [if_neg ab, if_neg ab]
      rw [Int32.lt_iff_toInt_lt] at a0 ab
      have b0 : ¬ b < 0 := by rw [Int32.lt_iff_toInt_lt]; omega
      rw [if_neg b0]
      by_cases b1 : (240 : Int32) < b
      · rw [if_pos b1]
        by_cases hc : (if (240 : Int32) < a then (0 : Int32) else 1) = 0
        · rw [if_pos hc]
        · rw [if_neg hc, if_pos rfl]
      · rw [Int32.lt_iff_toInt_lt] at b1
        have a1 : ¬ (240 : Int32) < a := by rw [Int32.lt_iff_toInt_lt]; omega
        have b2 : ¬ (240 : Int32) < b := by rw [Int32.lt_iff_toInt_lt]; omega
        rw [if_neg a1, if_neg b2, if_neg (by decide), if_neg (by decide)]
theorem op_trace {t : Nat} {I : am_mI} {J : am_mJ} {A : am_mI} {B : am_mJ} (h : am_Iv t I J A B) (a : Int32) : ∃ r : Int32, DX7_trace I a = some r ∧ DX8_trace A a = some r := by
  have q0 : (0 : Int32).toInt = 0 := rfl
  have q20 : (20 : Int32).toInt = 20 := rfl
  have e9 : a.toNatClampNeg = a.toInt.toNat := rfl
  obtain ⟨c1, -, c3⟩ := h.ac
  unfold DX7_trace DX8_trace DX0_bodyAt
  rw [c1]
  by_cases a0 : a < 0
  · rw [if_pos a0, if_pos a0]
    exact ⟨_, rfl, rfl⟩
  · rw [if_neg a0, if_neg a0]
    have j0 := a0
    rw [Int32.lt_iff_toInt_lt] at j0
    by_cases a1 : (20 : Int32) ≤ a
    · have a2 : ¬ a < (20 : Int32) := by
        rw [Int32.le_iff_toInt_le] at a1
        rw [Int32.lt_iff_toInt_lt]
        omega
      rw [if_pos a1, if_neg a2]
      by_cases a3 : A 0 37 ≤ a
      · rw [if_pos a3]
        exact ⟨_, rfl, rfl⟩
      · rw [if_neg a3]
        exact ⟨_, rfl, rfl⟩
    · have j1 := a1
      rw [Int32.le_iff_toInt_le] at j1
      have a2 : a < (20 : Int32) := by
        rw [Int32.lt_iff_toInt_lt]
        omega
      have g : ¬ (a < 0 ∨ 20 ≤ a.toNatClampNeg) := by
        rintro (f | f)
        · exact a0 f
        · omega
      rw [if_neg a1, if_pos a2, if_pos g, if_pos g, c3 _ (by omega)]
      by_cases a3 : A 0 37 ≤ a
      · rw [if_pos a3]
        exact ⟨_, rfl, rfl⟩
      · rw [if_neg a3]
        exact ⟨_, rfl, rfl⟩
