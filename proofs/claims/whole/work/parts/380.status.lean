/-! SENTENCES: status -/
theorem op_status {t : Nat} {I : am_mI} {J : am_mJ} {A : am_mI} {B : am_mJ} (h : am_Iv t I J A B) (a : Int32) : ∃ r : Int32, DX7_status I a = some r ∧ DX8_status A a = some r := by
  unfold DX7_status DX8_status DX8_laidMany DX1_laidCount
  obtain ⟨w, w1, w2⟩ := countAs (g := 7) (g' := 6) h.bd.r4 (-1)
  rw [show (2 : Nat) + 5 = 7 from rfl, w1, w2]
  by_cases a0 : a = 0
  · subst a0
    exact ⟨_, rfl, congrArg some h.bd.n0.symm⟩
  by_cases a1 : a = 1
  · subst a1
    exact ⟨_, rfl, rfl⟩
  by_cases a2 : a = 2
  · subst a2
    exact ⟨_, rfl, congrArg some h.bd.n2.symm⟩
  by_cases a3 : a = 3
  · subst a3
    exact ⟨_, rfl, congrArg some h.bd.n1.symm⟩
  by_cases a4 : a = 4
  · subst a4
    exact ⟨_, rfl, congrArg some h.bd.n3.symm⟩
  by_cases a5 : a = 5
  · subst a5
    exact ⟨_, rfl, congrArg some h.bd.n4.symm⟩
  by_cases a6 : a = 6
  · subst a6
    exact ⟨_, rfl, congrArg some h.bd.n5.symm⟩
  by_cases a7 : a = 7
  · subst a7
    exact ⟨_, rfl, congrArg some h.ac.1.symm⟩
  simp only [if_neg a0, if_neg a1, if_neg a2, if_neg a3, if_neg a4, if_neg a5, if_neg a6, if_neg a7]
  by_cases b11 : a = 11
  · subst b11
    exact ⟨_, rfl, congrArg some h.rf.q1.symm⟩
  by_cases b12 : a = 12
  · subst b12
    exact ⟨_, rfl, congrArg some h.rf.q2.symm⟩
  by_cases b13 : a = 13
  · subst b13
    exact ⟨_, rfl, congrArg some h.rf.q3.symm⟩
  by_cases b14 : a = 14
  · subst b14
    exact ⟨_, rfl, congrArg some h.rf.q4.symm⟩
  by_cases b15 : a = 15
  · subst b15
    exact ⟨_, rfl, congrArg some h.rf.q5.symm⟩
  by_cases b16 : a = 16
  · subst b16
    exact ⟨_, rfl, congrArg some h.rf.q6.symm⟩
  by_cases b17 : a = 17
  · subst b17
    exact ⟨_, rfl, congrArg some h.rf.q7.symm⟩
  have ne : ∀ k : Int32, ¬ a = k → a.toInt ≠ k.toInt := fun k hk e => hk (Int32.toInt_inj.mp e)
  have n11 : a.toInt ≠ 11 := ne 11 b11
  have n12 : a.toInt ≠ 12 := ne 12 b12
  have n13 : a.toInt ≠ 13 := ne 13 b13
  have n14 : a.toInt ≠ 14 := ne 14 b14
  have n15 : a.toInt ≠ 15 := ne 15 b15
  have n16 : a.toInt ≠ 16 := ne 16 b16
  have n17 : a.toInt ≠ 17 := ne 17 b17
  have q11 : (11 : Int32).toInt = 11 := rfl
  have q17 : (17 : Int32).toInt = 17 := rfl
  have q0 : (0 : Int32).toInt = 0 := rfl
  have q7 : (7 : Int32).toInt = 7 := rfl
  have lo := Int32.le_toInt a
  have hi := Int32.toInt_lt a
  have m : (if a < (11 : Int32) then some (-1 : Int32) else if (17 : Int32) < a then some (-1) else if ¬ (a - 10 < 0 ∨ 8 ≤ (a - 10).toNatClampNeg) then some (A 1 (a - 10).toNatClampNeg) else none) = some (-1) := by
    by_cases c : a < (11 : Int32)
    · rw [if_pos c]
    · rw [if_neg c, if_pos]
      rw [Int32.lt_iff_toInt_lt] at c ⊢
      omega
  refine ⟨-1, ?_, m⟩
  unfold DX7_refusalsOf
  have s : (a - 11).toInt = Int.bmod (a.toInt - 11) (2 ^ 32) := by
    rw [Int32.toInt_sub, q11]
  by_cases c : a - 11 < 0
  · rw [if_pos c]
    rfl
  · rw [if_neg c, if_neg]
    · rfl
    · rw [Int32.lt_iff_toInt_lt] at c ⊢
      have p : ((2 ^ 32 : Nat) : Int) = 4294967296 := rfl
      rw [Int.bmod_def, p] at s
      split at s <;> omega
