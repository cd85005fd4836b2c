/-! WHAT TIES THE TWO MEMORIES -/
abbrev am_mI : Type := Nat → Nat → Int32
abbrev am_mJ : Type := Nat → Nat → Int64
theorem am_upI_ne {I : am_mI} {h k a : Nat} {v : Int32} (n : a ≠ h) : am_upI I h k v a = I a := by
  funext b
  unfold am_upI
  rw [if_neg (fun q => n q.1)]
theorem am_upI_at {I : am_mI} {h k : Nat} {v : Int32} : am_upI I h k v h = fun b => if b = k then v else I h b := by
  funext b
  unfold am_upI
  by_cases q : b = k
  · rw [if_pos ⟨rfl, q⟩, if_pos q]
  · rw [if_neg (fun r => q r.2), if_neg q]
/-- the board at x's cell b against nine rows and six numbers -/
def am_Bd (I : am_mI) (b : Nat) (r : Nat → Nat → Int32) (n : Nat → Int32) : Prop := (I (b + 1) = r 0) ∧ (I (b + 2) = r 1) ∧ (I (b + 3) = r 2) ∧ (I (b + 4) = r 3) ∧ (I (b + 5) = r 4) ∧ (I (b + 6) = r 5) ∧ (I (b + 7) = r 6) ∧ (I (b + 8) = r 7) ∧ (I (b + 9) = r 8) ∧ (I b 3 = n 0) ∧ (I b 10 = n 1) ∧ (I b 11 = n 2) ∧ (I b 12 = n 3) ∧ (I b 13 = n 4) ∧ (I b 14 = n 5)
theorem am_Bd.r0 {I : am_mI} {b : Nat} {r : Nat → Nat → Int32} {n : Nat → Int32} (h : am_Bd I b r n) : I (b + 1) = r 0 := h.1
theorem am_Bd.r1 {I : am_mI} {b : Nat} {r : Nat → Nat → Int32} {n : Nat → Int32} (h : am_Bd I b r n) : I (b + 2) = r 1 := h.2.1
theorem am_Bd.r2 {I : am_mI} {b : Nat} {r : Nat → Nat → Int32} {n : Nat → Int32} (h : am_Bd I b r n) : I (b + 3) = r 2 := h.2.2.1
theorem am_Bd.r3 {I : am_mI} {b : Nat} {r : Nat → Nat → Int32} {n : Nat → Int32} (h : am_Bd I b r n) : I (b + 4) = r 3 := h.2.2.2.1
theorem am_Bd.r4 {I : am_mI} {b : Nat} {r : Nat → Nat → Int32} {n : Nat → Int32} (h : am_Bd I b r n) : I (b + 5) = r 4 := h.2.2.2.2.1
theorem am_Bd.r5 {I : am_mI} {b : Nat} {r : Nat → Nat → Int32} {n : Nat → Int32} (h : am_Bd I b r n) : I (b + 6) = r 5 := h.2.2.2.2.2.1
theorem am_Bd.r6 {I : am_mI} {b : Nat} {r : Nat → Nat → Int32} {n : Nat → Int32} (h : am_Bd I b r n) : I (b + 7) = r 6 := h.2.2.2.2.2.2.1
theorem am_Bd.r7 {I : am_mI} {b : Nat} {r : Nat → Nat → Int32} {n : Nat → Int32} (h : am_Bd I b r n) : I (b + 8) = r 7 := h.2.2.2.2.2.2.2.1
theorem am_Bd.r8 {I : am_mI} {b : Nat} {r : Nat → Nat → Int32} {n : Nat → Int32} (h : am_Bd I b r n) : I (b + 9) = r 8 := h.2.2.2.2.2.2.2.2.1
theorem am_Bd.n0 {I : am_mI} {b : Nat} {r : Nat → Nat → Int32} {n : Nat → Int32} (h : am_Bd I b r n) : I b 3 = n 0 := h.2.2.2.2.2.2.2.2.2.1
theorem am_Bd.n1 {I : am_mI} {b : Nat} {r : Nat → Nat → Int32} {n : Nat → Int32} (h : am_Bd I b r n) : I b 10 = n 1 := h.2.2.2.2.2.2.2.2.2.2.1
theorem am_Bd.n2 {I : am_mI} {b : Nat} {r : Nat → Nat → Int32} {n : Nat → Int32} (h : am_Bd I b r n) : I b 11 = n 2 := h.2.2.2.2.2.2.2.2.2.2.2.1
theorem am_Bd.n3 {I : am_mI} {b : Nat} {r : Nat → Nat → Int32} {n : Nat → Int32} (h : am_Bd I b r n) : I b 12 = n 3 := h.2.2.2.2.2.2.2.2.2.2.2.2.1
theorem am_Bd.n4 {I : am_mI} {b : Nat} {r : Nat → Nat → Int32} {n : Nat → Int32} (h : am_Bd I b r n) : I b 13 = n 4 := h.2.2.2.2.2.2.2.2.2.2.2.2.2.1
theorem am_Bd.n5 {I : am_mI} {b : Nat} {r : Nat → Nat → Int32} {n : Nat → Int32} (h : am_Bd I b r n) : I b 14 = n 5 := h.2.2.2.2.2.2.2.2.2.2.2.2.2.2
/-- m's board: rows and numbers -/
def am_mr (A : am_mI) (q : Nat) : Nat → Int32 := A (q + 2)
def am_mn (A : am_mI) (q : Nat) : Int32 := A 0 q
theorem am_in {x : Int32} {n : Nat} (h0 : ¬ x < 0) (h1 : x.toInt < n) : ¬ (x < 0 ∨ n ≤ x.toNatClampNeg) := by
  rintro (h | h)
  · exact h0 h
  · have h2 : 0 ≤ x.toInt := by
      rw [Int32.lt_iff_toInt_lt] at h0
      have : (0 : Int32).toInt = 0 := rfl
      omega
    have h3 : x.toNatClampNeg = x.toInt.toNat := rfl
    omega
/-- refusals: the two ways of counting them -/
def am_Rf (I A : am_mI) : Prop := (I 40 0 = A 1 1) ∧ (I 40 1 = A 1 2) ∧ (I 40 2 = A 1 3) ∧ (I 40 3 = A 1 4) ∧ (I 40 4 = A 1 5) ∧ (I 40 5 = A 1 6) ∧ (I 40 6 = A 1 7)
theorem am_Rf.q1 {I A : am_mI} (h : am_Rf I A) : I 40 0 = A 1 1 := h.1
theorem am_Rf.q2 {I A : am_mI} (h : am_Rf I A) : I 40 1 = A 1 2 := h.2.1
theorem am_Rf.q3 {I A : am_mI} (h : am_Rf I A) : I 40 2 = A 1 3 := h.2.2.1
theorem am_Rf.q4 {I A : am_mI} (h : am_Rf I A) : I 40 3 = A 1 4 := h.2.2.2.1
theorem am_Rf.q5 {I A : am_mI} (h : am_Rf I A) : I 40 4 = A 1 5 := h.2.2.2.2.1
theorem am_Rf.q6 {I A : am_mI} (h : am_Rf I A) : I 40 5 = A 1 6 := h.2.2.2.2.2.1
theorem am_Rf.q7 {I A : am_mI} (h : am_Rf I A) : I 40 6 = A 1 7 := h.2.2.2.2.2.2
theorem refuse6 (I : am_mI) (J : am_mJ) : DX7_refuse I J (-6) = some (-6, am_upI I 40 5 (I 40 5 + 1), J) := rfl
theorem no6 (I : am_mI) (J : am_mJ) : DX8_no I J (-6) = some (-6, am_upI I 1 6 (I 1 6 + 1), J) := rfl
def am_Iv (I : am_mI) (J : am_mJ) (A : am_mI) (B : am_mJ) : Prop := (am_Bd I 2 (am_mr A) (am_mn A)) ∧ (am_Rf I A) ∧ (I 0 6 = A 0 6)
theorem am_Iv.bd {I : am_mI} {J : am_mJ} {A : am_mI} {B : am_mJ} (h : am_Iv I J A B) : am_Bd I 2 (am_mr A) (am_mn A) := h.1
theorem am_Iv.rf {I : am_mI} {J : am_mJ} {A : am_mI} {B : am_mJ} (h : am_Iv I J A B) : am_Rf I A := h.2.1
theorem am_Iv.ft {I : am_mI} {J : am_mJ} {A : am_mI} {B : am_mJ} (h : am_Iv I J A B) : I 0 6 = A 0 6 := h.2.2
/-- both answer the same and the tie holds on -/
def am_Tw (o p : Option (Int32 × am_mI × am_mJ)) : Prop := ∃ (r : Int32) (I : am_mI) (J : am_mJ) (A : am_mI) (B : am_mJ), o = some (r, I, J) ∧ p = some (r, A, B) ∧ am_Iv I J A B
theorem am_Tw.mk {r : Int32} {I : am_mI} {J : am_mJ} {A : am_mI} {B : am_mJ} (h : am_Iv I J A B) : am_Tw (some (r, I, J)) (some (r, A, B)) := ⟨r, I, J, A, B, rfl, rfl, h⟩
theorem am_Iv.no6 {I : am_mI} {J : am_mJ} {A : am_mI} {B : am_mJ} (h : am_Iv I J A B) : am_Iv (am_upI I 40 5 (I 40 5 + 1)) J (am_upI A 1 6 (A 1 6 + 1)) B :=
  ⟨⟨h.bd.r0, h.bd.r1, h.bd.r2, h.bd.r3, h.bd.r4, h.bd.r5, h.bd.r6, h.bd.r7, h.bd.r8, h.bd.n0, h.bd.n1, h.bd.n2, h.bd.n3, h.bd.n4, h.bd.n5⟩,
   ⟨h.rf.q1, h.rf.q2, h.rf.q3, h.rf.q4, h.rf.q5, congrArg (· + 1) h.rf.q6, h.rf.q7⟩, h.ft⟩
theorem am_Iv.side {I : am_mI} {J : am_mJ} {A : am_mI} {B : am_mJ} {v : Int32} (h : am_Iv I J A B) : am_Iv (am_upI I 2 10 v) J (am_upI A 0 1 v) B :=
  ⟨⟨h.bd.r0, h.bd.r1, h.bd.r2, h.bd.r3, h.bd.r4, h.bd.r5, h.bd.r6, h.bd.r7, h.bd.r8, h.bd.n0, rfl, h.bd.n2, h.bd.n3, h.bd.n4, h.bd.n5⟩,
   ⟨h.rf.q1, h.rf.q2, h.rf.q3, h.rf.q4, h.rf.q5, h.rf.q6, h.rf.q7⟩, h.ft⟩
theorem op_fault {I : am_mI} {J : am_mJ} {A : am_mI} {B : am_mJ} (h : am_Iv I J A B) : DX7_fault I = DX8_fault A := h.ft
theorem op_side {I : am_mI} {J : am_mJ} {A : am_mI} {B : am_mJ} (h : am_Iv I J A B) (a : Int32) : am_Tw (DX7_side I J a) (DX8_side A B a) := by
  unfold DX7_side DX8_side
  by_cases h0 : a < 0
  · rw [if_pos h0, if_pos h0, refuse6, no6]
    exact .mk h.no6
  · rw [if_neg h0, if_neg h0]
    have e : a < (3 : Int32) ↔ a ≤ (2 : Int32) := by
      rw [Int32.lt_iff_toInt_lt, Int32.le_iff_toInt_le]
      have q3 : (3 : Int32).toInt = 3 := rfl
      have q2 : (2 : Int32).toInt = 2 := rfl
      omega
    by_cases h1 : a < (3 : Int32)
    · rw [if_pos h1, if_pos (e.mp h1)]
      unfold DX1_turnTo DX1_sunnySide
      simp only [Option.bind_some]
      rw [show I 2 10 = A 0 1 from h.bd.n1]
      exact .mk h.side
    · rw [if_neg h1, if_neg (fun q => h1 (e.mpr q)), refuse6, no6]
      exact .mk h.no6
theorem op_seed {I : am_mI} {J : am_mJ} {A : am_mI} {B : am_mJ} (h : am_Iv I J A B) (a : Int32) : am_Tw (DX7_seed I J a) (DX8_seed A B a) := by
  unfold DX7_seed DX8_seed DX1_sow DX1_seedNow
  simp only [Option.bind_some]
  rw [show I 2 14 = A 0 5 from h.bd.n5]
  exact .mk ⟨⟨h.bd.r0, h.bd.r1, h.bd.r2, h.bd.r3, h.bd.r4, h.bd.r5, h.bd.r6, h.bd.r7, h.bd.r8, h.bd.n0, h.bd.n1, h.bd.n2, h.bd.n3, h.bd.n4, rfl⟩,
   ⟨h.rf.q1, h.rf.q2, h.rf.q3, h.rf.q4, h.rf.q5, h.rf.q6, h.rf.q7⟩, h.ft⟩
