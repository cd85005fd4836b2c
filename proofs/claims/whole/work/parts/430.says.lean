/-! SENTENCES: what shelves say -/
theorem LX8_says_s (n : Nat) (I : (Nat → Nat → Int32)) (J : (Nat → Nat → Int64)) (x2 : Int32) (x3 : Int32) (x4 : Int32) (x5 : Int32) : LX8_says (n + 1) I J x2 x3 x4 x5 =
    if x2 = 0 then
      if x2 = 0 then
        (if ¬ (x3 < 0 ∨ 8 ≤ (x3).toNatClampNeg) then
          some ((I 3 (x3).toNatClampNeg), I, J)
        else none)
      else if x2 = 1 then
        ((DX8_count I 6 x3).bind fun q25 =>
        some (q25, I, J))
      else if x2 = 2 then
        ((DX8_count I 7 x3).bind fun q26 =>
        some (q26, I, J))
      else if x2 = 3 then
        ((DX8_freshOf I x3 ((24 : Int32)) ((0 : Int32)) ((2 : Int32))).bind fun q27 =>
        some (q27, I, J))
      else if x2 = 4 then
        ((DX8_freshOf I x3 ((24 : Int32)) ((0 : Int32)) ((2 : Int32))).bind fun q28 =>
        some (q28, I, J))
      else if x2 = 5 then
        ((DX8_freshOf I x3 ((24 : Int32)) ((0 : Int32)) ((2 : Int32))).bind fun q29 =>
        some (q29, I, J))
      else if x2 = 6 then
        (if ¬ (x3 < 0 ∨ 8 ≤ (x3).toNatClampNeg) then
          some ((I 4 (x3).toNatClampNeg), I, J)
        else none)
      else (DX8_freshOf I x3 ((24 : Int32)) ((0 : Int32)) ((2 : Int32))).bind fun q30 =>
      some (q30, I, J)
    else
      if x2 = x4 then
        if x2 = 0 then
          (if ¬ (x3 < 0 ∨ 8 ≤ (x3).toNatClampNeg) then
            some ((I 3 (x3).toNatClampNeg), I, J)
          else none)
        else if x2 = 1 then
          ((DX8_count I 6 x3).bind fun q31 =>
          some (q31, I, J))
        else if x2 = 2 then
          ((DX8_count I 7 x3).bind fun q32 =>
          some (q32, I, J))
        else if x2 = 3 then
          ((DX8_freshOf I x3 ((24 : Int32)) ((0 : Int32)) ((2 : Int32))).bind fun q33 =>
          some (q33, I, J))
        else if x2 = 4 then
          ((DX8_freshOf I x3 ((24 : Int32)) ((0 : Int32)) ((2 : Int32))).bind fun q34 =>
          some (q34, I, J))
        else if x2 = 5 then
          ((DX8_freshOf I x3 ((24 : Int32)) ((0 : Int32)) ((2 : Int32))).bind fun q35 =>
          some (q35, I, J))
        else if x2 = 6 then
          (if ¬ (x3 < 0 ∨ 8 ≤ (x3).toNatClampNeg) then
            some ((I 4 (x3).toNatClampNeg), I, J)
          else none)
        else (DX8_freshOf I x3 ((24 : Int32)) ((0 : Int32)) ((2 : Int32))).bind fun q36 =>
        some (q36, I, J)
      else
        if ¬ x5 = 0 then
          if x2 = 0 then
            (if ¬ (x3 < 0 ∨ 8 ≤ (x3).toNatClampNeg) then
              some ((I 3 (x3).toNatClampNeg), I, J)
            else none)
          else if x2 = 1 then
            ((DX8_count I 6 x3).bind fun q37 =>
            some (q37, I, J))
          else if x2 = 2 then
            ((DX8_count I 7 x3).bind fun q38 =>
            some (q38, I, J))
          else if x2 = 3 then
            ((DX8_freshOf I x3 ((24 : Int32)) ((0 : Int32)) ((2 : Int32))).bind fun q39 =>
            some (q39, I, J))
          else if x2 = 4 then
            ((DX8_freshOf I x3 ((24 : Int32)) ((0 : Int32)) ((2 : Int32))).bind fun q40 =>
            some (q40, I, J))
          else if x2 = 5 then
            ((DX8_freshOf I x3 ((24 : Int32)) ((0 : Int32)) ((2 : Int32))).bind fun q41 =>
            some (q41, I, J))
          else if x2 = 6 then
            (if ¬ (x3 < 0 ∨ 8 ≤ (x3).toNatClampNeg) then
              some ((I 4 (x3).toNatClampNeg), I, J)
            else none)
          else (DX8_freshOf I x3 ((24 : Int32)) ((0 : Int32)) ((2 : Int32))).bind fun q42 =>
          some (q42, I, J)
        else
          (DX8_no I J ((-2 : Int32))).bind fun q43 =>
          some (q43.1, q43.2.1, q43.2.2) := rfl
theorem saidAs {t : Nat} {I : am_mI} {J : am_mJ} {A : am_mI} {B : am_mJ} (h : am_Iv t I J A B) {s w : Int32} (hw : 0 ≤ w.toInt ∧ w.toInt ≤ 6) (st : ¬ DX8_isStuff A s = 0) : ∃ r : Int32, DX7_saidAs I s w = some r ∧
    (if w = 0 then (if ¬ (s < 0 ∨ 8 ≤ s.toNatClampNeg) then some (A 3 s.toNatClampNeg, A, B) else none)
      else if w = 1 then (DX8_count A 6 s).bind fun q => some (q, A, B)
      else if w = 2 then (DX8_count A 7 s).bind fun q => some (q, A, B)
      else if w = 3 then (DX8_freshOf A s 24 0 2).bind fun q => some (q, A, B)
      else if w = 4 then (DX8_freshOf A s 24 0 2).bind fun q => some (q, A, B)
      else if w = 5 then (DX8_freshOf A s 24 0 2).bind fun q => some (q, A, B)
      else if w = 6 then (if ¬ (s < 0 ∨ 8 ≤ s.toNatClampNeg) then some (A 4 s.toNatClampNeg, A, B) else none)
      else (DX8_freshOf A s 24 0 2).bind fun q => some (q, A, B)) = some (r, A, B) := by
  obtain ⟨g, k0, k1, k2⟩ := stuffAt h st
  obtain ⟨r, r1, r2, -⟩ := stuffFresh h st (x := 24) (y := 0) (z := 2) (by decide) (by decide) (by decide)
  obtain ⟨u, u1, u2⟩ := countAs (g := 7) (g' := 6) h.bd.r4 s
  obtain ⟨v, v1, v2⟩ := countAs (g := 8) (g' := 7) h.bd.r5 s
  unfold DX7_saidAs DX1_cellsLaidWith DX1_cellsPlannedWith
  rw [show (2 : Nat) + 5 = 7 from rfl, show (2 : Nat) + 6 = 8 from rfl, k0, k1, k2, u1, u2, v1, v2, r2, if_pos g, if_pos g]
  simp only [Option.bind_some, r1]
  have e : w = 0 ∨ w = 1 ∨ w = 2 ∨ w = 3 ∨ w = 4 ∨ w = 5 ∨ w = 6 := by
    clear k0 k1 k2 r1 r2 u1 u2 v1 v2
    ((try simp only [Int32.lt_iff_toInt_lt, Int32.le_iff_toInt_le, Int32.reduceToInt, ← Int32.toNat_toInt, ← Int32.toInt_inj] at *) <;> omega)
  rcases e with rfl | rfl | rfl | rfl | rfl | rfl | rfl <;> exact ⟨_, rfl, rfl⟩
theorem under_of {I : am_mI} {k w : Int32} (hk : 0 ≤ k.toInt ∧ k.toInt ≤ 6) (hw : 0 ≤ w.toInt ∧ w.toInt ≤ 6) :
    DX2_isUnder I k w = some (if w = 0 ∨ w = k ∨ (w = 1 ∧ k = 3) ∨ (w = 2 ∧ k = 6) ∨ (w = 4 ∧ k = 5) then 1 else 0) := by
  obtain ⟨a, rfl⟩ := num_of (n := 7) hk.1 (by omega)
  obtain ⟨b, rfl⟩ := num_of (n := 7) hw.1 (by omega)
  have e : ∀ (k w : Fin 7), DX2_isUnder (fun _ _ => 0) (Int32.ofInt (k.1 : Int)) (Int32.ofInt (w.1 : Int)) = some (if Int32.ofInt (w.1 : Int) = 0 ∨ Int32.ofInt (w.1 : Int) = Int32.ofInt (k.1 : Int) ∨ (Int32.ofInt (w.1 : Int) = 1 ∧ Int32.ofInt (k.1 : Int) = 3) ∨ (Int32.ofInt (w.1 : Int) = 2 ∧ Int32.ofInt (k.1 : Int) = 6) ∨ (Int32.ofInt (w.1 : Int) = 4 ∧ Int32.ofInt (k.1 : Int) = 5) then 1 else 0) := by decide +kernel
  rw [← e a b]
  exact under_any _ _ _ _ _ _
theorem op_says {t : Nat} {I : am_mI} {J : am_mJ} {A : am_mI} {B : am_mJ} (h : am_Iv t I J A B) (a w : Int32) : am_Tw (t + 20000) (DX7_says I J a w) (DX8_says A B a w) := by
  unfold DX7_says DX8_says
  rcases shelf_in a with ⟨h1, h2⟩ | ⟨s, hs, e1, e2, h1, h2, h3⟩
  · rw [if_pos h1, if_pos h2]
    exact .no1 h
  · have z : ¬ DX7_shelfAt a = 0 := by omega
    rw [if_neg z, if_neg h2, h1]
    simp only [if_pos h3]
    rw [e1]
    obtain ⟨c1, c2, c3, c4, c5, c6, c7, c8, c9, c10⟩ := h.sh s hs
    have hst := h.st s hs
    by_cases w0 : w < 0
    · rw [if_pos w0, if_pos w0]
      exact .no1 h
    rw [if_neg w0, if_neg w0]
    by_cases w1 : w < (7 : Int32)
    · have w2 : w ≤ (6 : Int32) := by
        clear c1 c2 c3 c4 c5 c6 c7 c8 c9 c10
        ((try simp only [Int32.lt_iff_toInt_lt, Int32.le_iff_toInt_le, Int32.reduceToInt, ← Int32.toNat_toInt, ← Int32.toInt_inj] at *) <;> omega)
      have hw : 0 ≤ w.toInt ∧ w.toInt ≤ 6 := by
        clear c1 c2 c3 c4 c5 c6 c7 c8 c9 c10
        ((try simp only [Int32.lt_iff_toInt_lt, Int32.le_iff_toInt_le, Int32.reduceToInt, ← Int32.toNat_toInt, ← Int32.toInt_inj] at *) <;> omega)
      rw [if_pos w1, if_pos w2]
      unfold DX3_holdsRow DX3_stuffHeld DX3_holdsStuff
      rw [c1]
      rcases c6 with q | q | q
      · rw [q]
        exact .no3 h
      · rw [q]
        exact .no2 h
      · rw [c5 q, q]
        have st : ¬ DX8_isStuff A (A 14 s) = 0 := mstuff (c9 q).1 (hst q)
        have kk := (h.kinds st).1
        obtain ⟨g, k0, -⟩ := stuffAt h st
        obtain ⟨r, r1, r2⟩ := saidAs h hw st
        obtain ⟨m, em, -⟩ := am_FU1
        generalize A 14 s = T at *
        obtain ⟨k, ek⟩ : ∃ k, k = A 2 T.toNatClampNeg := ⟨_, rfl⟩
        rw [← ek] at kk k0
        simp only [if_pos g, ← ek]
        have u := under_of (I := I) kk hw
        have z2 : ¬ (2 : Int32) = 1 := by decide
        have z0 : ¬ (2 : Int32) = 0 := by decide
        have z1 : ¬ (1 : Int32) = 0 := by decide
        simp only [z2, z0, z1, not_true_eq_false, not_false_eq_true, if_true, if_false, k0, Option.bind_some, u, r1]
        rw [em]
        simp only [LX8_says_s, r2]
        have ekk : k = 0 ∨ k = 1 ∨ k = 2 ∨ k = 3 ∨ k = 4 ∨ k = 5 ∨ k = 6 := by
          clear c1 c2 c3 c4 c5 c7 c8 c9 c10 k0 u r1 r2 ek em hst h1 h2
          ((try simp only [Int32.lt_iff_toInt_lt, Int32.le_iff_toInt_le, Int32.reduceToInt, ← Int32.toNat_toInt, ← Int32.toInt_inj] at *) <;> omega)
        have eww : w = 0 ∨ w = 1 ∨ w = 2 ∨ w = 3 ∨ w = 4 ∨ w = 5 ∨ w = 6 := by
          clear c1 c2 c3 c4 c5 c7 c8 c9 c10 k0 u r1 r2 ek em hst h1 h2 ekk
          ((try simp only [Int32.lt_iff_toInt_lt, Int32.le_iff_toInt_le, Int32.reduceToInt, ← Int32.toNat_toInt, ← Int32.toInt_inj] at *) <;> omega)
        clear c1 c2 c3 c4 c5 c7 c8 c9 c10 k0 u ek em hst h1 h2 r1 kk hw w0 w1 w2 g st
        have fin := am_Tw.mk1 (r := r) h
        have no2 := am_Tw.no2 h
        clear h
        rcases ekk with rfl | rfl | rfl | rfl | rfl | rfl | rfl <;> rcases eww with rfl | rfl | rfl | rfl | rfl | rfl | rfl <;>
          first | exact fin | exact no2
    · have w2 : ¬ w ≤ (6 : Int32) := by
        clear c1 c2 c3 c4 c5 c6 c7 c8 c9 c10
        ((try simp only [Int32.lt_iff_toInt_lt, Int32.le_iff_toInt_le, Int32.reduceToInt, ← Int32.toNat_toInt, ← Int32.toInt_inj] at *) <;> omega)
      rw [if_neg w1, if_neg w2]
      exact .no1 h
