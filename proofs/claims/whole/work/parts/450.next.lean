/-! SENTENCES: drying -/
theorem dryAs {t : Nat} {I : am_mI} {J : am_mJ} {A : am_mI} {B : am_mJ} (h : am_Iv t I J A B) {w : Int32} (hw : 0 ≤ w.toInt ∧ w.toInt ≤ 99) : ∃ d : Int32, DX1_driedByAnHour I 2 = d ∧ (1 ≤ d.toInt ∧ d.toInt ≤ 2) ∧ (w - d).toInt = w.toInt - d.toInt ∧ (if (0 : Int32) < w - d then w - d else 0) = DX8_dries A w ∧ ((0 ≤ w.toInt - d.toInt ∧ (DX8_dries A w).toInt = w.toInt - d.toInt) ∨ (w.toInt - d.toInt < 0 ∧ (DX8_dries A w).toInt = 0)) := by
  have key : ∀ d : Int32, d = 1 ∨ d = 2 → DX8_dries A w = (if 0 ≤ w - d then w - d else 0) → (1 ≤ d.toInt ∧ d.toInt ≤ 2) ∧ (w - d).toInt = w.toInt - d.toInt ∧ (if (0 : Int32) < w - d then w - d else 0) = DX8_dries A w ∧ ((0 ≤ w.toInt - d.toInt ∧ (DX8_dries A w).toInt = w.toInt - d.toInt) ∨ (w.toInt - d.toInt < 0 ∧ (DX8_dries A w).toInt = 0)) := by
    intro d hd e
    have hd2 : 1 ≤ d.toInt ∧ d.toInt ≤ 2 := by
      rcases hd with rfl | rfl <;> decide
    have ed : (w - d).toInt = w.toInt - d.toInt := by
      rw [Int32.toInt_sub]
      exact Int.bmod_eq_of_le (by omega) (by omega)
    rw [e]
    have v0 : (0 : Int32).toInt = 0 := rfl
    refine ⟨hd2, ed, ?_⟩
    by_cases y : 0 ≤ w - d
    · rw [if_pos y]
      rw [Int32.le_iff_toInt_le] at y
      by_cases z : (0 : Int32) < w - d
      · rw [if_pos z]
        exact ⟨rfl, by omega⟩
      · rw [if_neg z]
        rw [Int32.lt_iff_toInt_lt] at z
        exact ⟨Int32.toInt_inj.mp (by omega), by omega⟩
    · rw [if_neg y]
      rw [Int32.le_iff_toInt_le] at y
      have z : ¬ (0 : Int32) < w - d := by
        rw [Int32.lt_iff_toInt_lt]
        omega
      rw [if_neg z]
      exact ⟨rfl, by omega⟩
  unfold DX1_driedByAnHour
  rw [show I 2 10 = A 0 1 from h.bd.n1]
  by_cases s : ¬ A 0 1 = 0
  · rw [if_pos s]
    exact ⟨2, rfl, key 2 (Or.inr rfl) (by unfold DX8_dries; rw [if_pos s])⟩
  · rw [if_neg s]
    exact ⟨1, rfl, key 1 (Or.inl rfl) (by unfold DX8_dries; rw [if_neg s])⟩
theorem dry_sim {t : Nat} {I : am_mI} {J : am_mJ} {A : am_mI} {B : am_mJ} (h : am_Iv t I J A B) : ∀ (k m m2 : Nat) (w x : Int32), 0 ≤ w.toInt ∧ w.toInt ≤ 99 → 1 ≤ x.toInt → x.toInt + k = 241 → k < m → k < m2 → ∃ r : Int32, LX4_firstDryHour m I 2 w x = some r ∧ LX8_dry m2 A w x = some r := by
  intro k
  induction k with
  | zero =>
    intro m m2 w x hw h0 h1 hm hm2
    obtain ⟨m, rfl⟩ : ∃ j, m = j + 1 := ⟨m - 1, by omega⟩
    obtain ⟨m2, rfl⟩ : ∃ j, m2 = j + 1 := ⟨m2 - 1, by omega⟩
    unfold LX4_firstDryHour LX8_dry
    have q : (240 : Int32) < x := by ((try simp only [Int32.lt_iff_toInt_lt, Int32.le_iff_toInt_le, Int32.reduceToInt, ← Int32.toNat_toInt, ← Int32.toInt_inj] at *) <;> omega)
    rw [if_pos q, if_pos q]
    exact ⟨_, rfl, rfl⟩
  | succ k ih =>
    intro m m2 w x hw h0 h1 hm hm2
    obtain ⟨m, rfl⟩ : ∃ j, m = j + 1 := ⟨m - 1, by omega⟩
    obtain ⟨m2, rfl⟩ : ∃ j, m2 = j + 1 := ⟨m2 - 1, by omega⟩
    unfold LX4_firstDryHour LX8_dry
    have q : ¬ (240 : Int32) < x := by ((try simp only [Int32.lt_iff_toInt_lt, Int32.le_iff_toInt_le, Int32.reduceToInt, ← Int32.toNat_toInt, ← Int32.toInt_inj] at *) <;> omega)
    have x1 : (x + 1).toInt = x.toInt + 1 := i32_succ (n := 241) (by omega) (by omega) (by omega)
    obtain ⟨d, d1, d2, d3, d4, d5⟩ := dryAs h hw
    rw [if_neg q, if_neg q, d1, d4]
    by_cases z : ¬ DX8_dries A w = 0
    · rw [if_pos z, if_pos z]
      exact ih m m2 (DX8_dries A w) (x + 1) (by omega) (by omega) (by omega) (by omega) (by omega)
    · rw [if_neg z, if_neg z]
      exact ⟨_, rfl, rfl⟩
theorem op_dry {t : Nat} {I : am_mI} {J : am_mJ} {A : am_mI} {B : am_mJ} (h : am_Iv t I J A B) : ∃ r : Int32, DX7_dry I = some r ∧ DX8_dry A = some r := by
  have hw : 0 ≤ (A 0 2).toInt ∧ (A 0 2).toInt ≤ 99 := h.rg.2.2.1
  obtain ⟨r, r1, r2⟩ := dry_sim h 240 am_FU am_FU (A 0 2) 1 hw (by decide) (by decide) (by decide) (by decide)
  unfold DX7_dry DX4_firstDryHour DX1_wetness DX8_dry
  rw [show I 2 11 = A 0 2 from h.bd.n2, r1, r2, Option.bind_some]
  exact ⟨r, rfl, rfl⟩
theorem LX8_sprayings_s0 (n : Nat) (I : (Nat → Nat → Int32)) (J : (Nat → Nat → Int64)) (x1 : Int32) (x2 : Int32) (x3 : Int32) (x4 : Int32) : LX8_sprayings (n + 1) 0 I J x1 x2 x3 x4 =
    if x1 ≤ x4 then
      some (x3, I, J)
    else
      LX8_sprayings n 1 I J x1 x2 x3 x4 := rfl
theorem LX8_sprayings_s1 (n : Nat) (I : (Nat → Nat → Int32)) (J : (Nat → Nat → Int64)) (x1 : Int32) (x2 : Int32) (x3 : Int32) (x4 : Int32) : LX8_sprayings (n + 1) 1 I J x1 x2 x3 x4 =
    if ¬ (DX8_dries I x2) = 0 then
      LX8_sprayings n 0 I J x1 ((DX8_dries I x2)) x3 ((x4 + (1 : Int32)))
    else
      if x2 ≤ (89 : Int32) then
        LX8_sprayings n 1 I J x1 ((x2 + (10 : Int32))) ((x3 + (1 : Int32))) x4
      else
        LX8_sprayings n 1 I J x1 ((99 : Int32)) ((x3 + (1 : Int32))) x4 := rfl
theorem sprayings_sim {t : Nat} {I : am_mI} {J : am_mJ} {A : am_mI} {B : am_mJ} (h : am_Iv t I J A B) {n : Int32} (hn : n.toInt ≤ 240) : ∀ (k m m2 : Nat) (w s x : Int32), 0 ≤ w.toInt ∧ w.toInt ≤ 99 → 0 ≤ x.toInt → x.toInt + k = n.toInt → k < m → ∃ r : Int32, LX4_spraysNeeded m I 2 n w s x = some r ∧ LX8_sprayings (m2 + 3 * k + 1) 0 A B n w s x = some (r, A, B) := by
  intro k
  induction k with
  | zero =>
    intro m m2 w s x hw h0 h1 hm
    obtain ⟨m, rfl⟩ : ∃ j, m = j + 1 := ⟨m - 1, by omega⟩
    unfold LX4_spraysNeeded
    have q : n ≤ x := by
      rw [Int32.le_iff_toInt_le]
      omega
    rw [LX8_sprayings_s0, if_pos q, if_pos q]
    exact ⟨_, rfl, rfl⟩
  | succ k ih =>
    intro m m2 w s x hw h0 h1 hm
    obtain ⟨m, rfl⟩ : ∃ j, m = j + 1 := ⟨m - 1, by omega⟩
    unfold LX4_spraysNeeded
    have q : ¬ n ≤ x := by
      rw [Int32.le_iff_toInt_le]
      omega
    have x1 : (x + 1).toInt = x.toInt + 1 := i32_succ (n := 241) (by omega) (by omega) (by omega)
    have v0 : (0 : Int32).toInt = 0 := rfl
    have v89 : (89 : Int32).toInt = 89 := rfl
    have v99 : (99 : Int32).toInt = 99 := rfl
    have v10 : (10 : Int32).toInt = 10 := rfl
    obtain ⟨d, d1, d2, d3, d4, d5⟩ := dryAs h hw
    rw [show m2 + 3 * (k + 1) + 1 = (m2 + 3 * k + 2) + 1 + 1 by omega, LX8_sprayings_s0, if_neg q, if_neg q, d1]
    by_cases z : d < w
    · rw [if_pos z]
      rw [Int32.lt_iff_toInt_lt] at z
      have y : ¬ DX8_dries A w = 0 := fun e => by
        rw [e] at d5
        omega
      have e : DX8_dries A w = w - d := Int32.toInt_inj.mp (by omega)
      rw [LX8_sprayings_s1, if_pos y, e, show m2 + 3 * k + 2 = (m2 + 1) + 3 * k + 1 by omega]
      exact ih m (m2 + 1) (w - d) s (x + 1) (by omega) (by omega) (by omega) (by omega)
    · rw [if_neg z]
      rw [Int32.lt_iff_toInt_lt] at z
      have y : DX8_dries A w = 0 := Int32.toInt_inj.mp (by omega)
      have w1 : w ≤ (89 : Int32) := by
        rw [Int32.le_iff_toInt_le]
        omega
      have w2 : (w + 10).toInt = w.toInt + 10 := by
        rw [Int32.toInt_add, v10]
        exact Int.bmod_eq_of_le (by omega) (by omega)
      have w3 : DX1_wetBySpray w = w + 10 := by
        unfold DX1_wetBySpray
        rw [if_pos]
        rw [Int32.lt_iff_toInt_lt]
        omega
      rw [LX8_sprayings_s1, if_neg (not_not_intro y), if_pos w1, w3]
      obtain ⟨d', d1', d2', d3', d4', d5'⟩ := dryAs h (w := w + 10) (by omega)
      rw [d1] at d1'
      subst d1'
      have y2 : ¬ DX8_dries A (w + 10) = 0 := fun e => by
        rw [e] at d5'
        omega
      have e : DX8_dries A (w + 10) = w + 10 - d := Int32.toInt_inj.mp (by omega)
      rw [show m2 + 3 * k + 2 = (m2 + 3 * k + 1) + 1 by omega, LX8_sprayings_s1, if_pos y2, e]
      exact ih m m2 (w + 10 - d) (s + 1) (x + 1) (by omega) (by omega) (by omega) (by omega)
theorem op_sprayings {t : Nat} {I : am_mI} {J : am_mJ} {A : am_mI} {B : am_mJ} (h : am_Iv t I J A B) (n : Int32) : am_Tw (t + 20000) (DX7_sprayings I J n) (DX8_sprayings A B n) := by
  unfold DX7_sprayings DX8_sprayings
  rw [op_isHour]
  by_cases c : ¬ DX7_isHour n = 0
  · rw [if_pos c, if_pos c]
    have hn := hour_in c
    have hw : 0 ≤ (A 0 2).toInt ∧ (A 0 2).toInt ≤ 99 := h.rg.2.2.1
    have f : am_FU = 1000000 := rfl
    have z : (0 : Int32).toInt = 0 := rfl
    obtain ⟨r, r1, r2⟩ := sprayings_sim h hn.2 n.toInt.toNat am_FU (am_FU - 3 * n.toInt.toNat - 1) (A 0 2) 0 0 hw (by omega) (by omega) (by omega)
    rw [show am_FU - 3 * n.toInt.toNat - 1 + 3 * n.toInt.toNat + 1 = am_FU by omega] at r2
    unfold DX4_spraysNeeded DX1_wetness
    rw [show I 2 11 = A 0 2 from h.bd.n2, r1, r2, Option.bind_some]
    exact .mk1 h
  · rw [if_neg c, if_neg c]
    exact .no6 h
/-! SENTENCES: the next cell, lacking colours, wrong cells -/
theorem LX4_nextCell_s0 (n : Nat) (I : (Nat → Nat → Int32)) (g0 : Nat) (x1 : Int32) (x2 : Int32) : LX4_nextCell (n + 1) 0 I g0 x1 x2 =
    if x1 < 0 then
      some ((-1 : Int32))
    else
      LX4_nextCell n 1 I g0 x1 ((0 : Int32)) := rfl
theorem LX4_nextCell_s1 (n : Nat) (I : (Nat → Nat → Int32)) (g0 : Nat) (x1 : Int32) (x2 : Int32) : LX4_nextCell (n + 1) 1 I g0 x1 x2 =
    if (4 : Int32) ≤ x2 then
      LX4_nextCell n 0 I g0 ((x1 + (-1 : Int32))) 0
    else
      (DX1_plannedAt I g0 (((x1 * (4 : Int32)) + x2))).bind fun q3 =>
      if q3 = (-1 : Int32) then
        LX4_nextCell n 1 I g0 x1 ((x2 + (1 : Int32)))
      else
        (DX1_mayBeLaid I g0 (((x1 * (4 : Int32)) + x2))).bind fun q4 =>
        if q4 = 0 then
          LX4_nextCell n 1 I g0 x1 ((x2 + (1 : Int32)))
        else
          some (((x1 * (4 : Int32)) + x2)) := rfl
theorem LX8_next_s0 (n : Nat) (I : (Nat → Nat → Int32)) (x1 : Int32) (x2 : Int32) : LX8_next (n + 1) 0 I x1 x2 =
    if x1 < 0 then
      some ((-1 : Int32))
    else
      LX8_next n 1 I x1 (((4 : Int32) * x1)) := rfl
theorem LX8_next_s1 (n : Nat) (I : (Nat → Nat → Int32)) (x1 : Int32) (x2 : Int32) : LX8_next (n + 1) 1 I x1 x2 =
    if (((4 : Int32) * x1) + (4 : Int32)) ≤ x2 then
      LX8_next n 0 I ((x1 + (-1 : Int32))) 0
    else
      (DX8_isOpen I x2).bind fun q3 =>
      if q3 = 0 then
        LX8_next n 1 I x1 ((x2 + (1 : Int32)))
      else
        (DX8_mayLay I x2).bind fun q4 =>
        if q4 = 0 then
          LX8_next n 1 I x1 ((x2 + (1 : Int32)))
        else
          some x2 := rfl
theorem next_row {t : Nat} {I : am_mI} {J : am_mJ} {A : am_mI} {B : am_mJ} (h : am_Iv t I J A B) {r : Int32} (hr : 0 ≤ r.toInt ∧ r.toInt ≤ 5) : ∀ (j m m2 : Nat) (q c : Int32), 0 ≤ q.toInt → q.toInt + j = 4 → c.toInt = 4 * r.toInt + q.toInt →
    (∃ v : Int32, LX4_nextCell (m + j + 1) 1 I 2 r q = some v ∧ LX8_next (m2 + j + 1) 1 A r c = some v) ∨ (LX4_nextCell (m + j + 1) 1 I 2 r q = LX4_nextCell m 0 I 2 (r + -1) 0 ∧ LX8_next (m2 + j + 1) 1 A r c = LX8_next m2 0 A (r + -1) 0) := by
  have v4 : (4 : Int32).toInt = 4 := rfl
  have r4 : ((4 : Int32) * r).toInt = 4 * r.toInt := by
    rw [Int32.toInt_mul, v4]
    exact Int.bmod_eq_of_le (by omega) (by omega)
  have r44 : ((4 : Int32) * r + 4).toInt = 4 * r.toInt + 4 := by
    rw [Int32.toInt_add, r4, v4]
    exact Int.bmod_eq_of_le (by omega) (by omega)
  have r5 : (r * (4 : Int32)).toInt = 4 * r.toInt := by
    rw [Int32.toInt_mul, v4, Int.mul_comm]
    exact Int.bmod_eq_of_le (by omega) (by omega)
  intro j
  induction j with
  | zero =>
    intro m m2 q c h0 h1 h2
    right
    rw [LX4_nextCell_s1, LX8_next_s1, if_pos, if_pos]
    · exact ⟨rfl, rfl⟩
    · rw [Int32.le_iff_toInt_le]
      omega
    · rw [Int32.le_iff_toInt_le]
      omega
  | succ j ih =>
    intro m m2 q c h0 h1 h2
    have ec : r * (4 : Int32) + q = c := by
      apply Int32.toInt_inj.mp
      rw [Int32.toInt_add, r5, h2]
      exact Int.bmod_eq_of_le (by omega) (by omega)
    have hc : 0 ≤ c.toInt ∧ c.toInt < 24 := by omega
    have c1 := xcell hc
    have c2 := cell_in c1
    obtain ⟨-, -, p2, -⟩ := cellAt h c1
    obtain ⟨y, y1, y2⟩ := mayAs h c1
    have hs := ih m m2 (q + 1) (c + 1) (by rw [i32_succ (n := 24)] <;> omega) (by rw [i32_succ (n := 24)] <;> omega) (by rw [i32_succ (n := 24) (x := c), i32_succ (n := 24)] <;> omega)
    rw [show m + (j + 1) + 1 = (m + j + 1) + 1 from rfl, show m2 + (j + 1) + 1 = (m2 + j + 1) + 1 from rfl, LX4_nextCell_s1, LX8_next_s1, if_neg, if_neg, ec, p2, Option.bind_some, y1, y2]
    · unfold DX8_isOpen
      simp only [if_pos c2.1]
      by_cases l : ¬ A 6 c.toNatClampNeg = -1
      · rw [if_pos l]
        simp only [Option.bind_some]
        rw [if_pos True.intro]
        have z : y = 0 := by
          unfold DX8_mayLay at y2
          rw [if_pos c2.1, if_pos l] at y2
          exact (Option.some.inj y2).symm
        by_cases p : A 7 c.toNatClampNeg = -1
        · rw [if_pos p]
          exact hs
        · rw [if_neg p, if_pos z]
          exact hs
      · rw [if_neg l]
        simp only [Option.bind_some]
        by_cases p : A 7 c.toNatClampNeg = -1
        · rw [if_pos p, if_pos p]
          simp only [Option.bind_some]
          rw [if_pos True.intro]
          exact hs
        · rw [if_neg p, if_neg p]
          simp only [Option.bind_some]
          rw [if_neg (show ¬ (1 : Int32) = 0 by decide)]
          by_cases z : y = 0
          · rw [if_pos z, if_pos z]
            exact hs
          · rw [if_neg z, if_neg z]
            exact Or.inl ⟨c, rfl, rfl⟩
    · rw [Int32.le_iff_toInt_le]
      omega
    · rw [Int32.le_iff_toInt_le]
      omega
theorem next_sim {t : Nat} {I : am_mI} {J : am_mJ} {A : am_mI} {B : am_mJ} (h : am_Iv t I J A B) : ∀ (k m m2 : Nat) (r : Int32), r.toInt + 1 = k → k ≤ 6 → ∃ v : Int32, LX4_nextCell (m + 6 * k + 1) 0 I 2 r 0 = some v ∧ LX8_next (m2 + 6 * k + 1) 0 A r 0 = some v := by
  have v0 : (0 : Int32).toInt = 0 := rfl
  have v4 : (4 : Int32).toInt = 4 := rfl
  intro k
  induction k with
  | zero =>
    intro m m2 r h0 h1
    rw [LX4_nextCell_s0, LX8_next_s0, if_pos, if_pos]
    · exact ⟨_, rfl, rfl⟩
    · rw [Int32.lt_iff_toInt_lt]
      omega
    · rw [Int32.lt_iff_toInt_lt]
      omega
  | succ k ih =>
    intro m m2 r h0 h1
    have e : (r + -1).toInt = r.toInt - 1 := by
      have vn : (-1 : Int32).toInt = -1 := rfl
      rw [Int32.toInt_add, vn]
      exact Int.bmod_eq_of_le (by omega) (by omega)
    have r4 : ((4 : Int32) * r).toInt = 4 * r.toInt := by
      rw [Int32.toInt_mul, v4]
      exact Int.bmod_eq_of_le (by omega) (by omega)
    obtain ⟨v, v1, v2⟩ := ih m m2 (r + -1) (by omega) (by omega)
    rw [show m + 6 * (k + 1) + 1 = ((m + 6 * k + 1) + 4 + 1) + 1 by omega, show m2 + 6 * (k + 1) + 1 = ((m2 + 6 * k + 1) + 4 + 1) + 1 by omega, LX4_nextCell_s0, LX8_next_s0, if_neg, if_neg]
    · rcases next_row h (r := r) (by omega) 4 (m + 6 * k + 1) (m2 + 6 * k + 1) 0 (4 * r) (by omega) (by omega) (by omega) with ⟨w, w1, w2⟩ | ⟨w1, w2⟩
      · exact ⟨w, w1, w2⟩
      · rw [w1, w2]
        exact ⟨v, v1, v2⟩
    · rw [Int32.lt_iff_toInt_lt]
      omega
    · rw [Int32.lt_iff_toInt_lt]
      omega
theorem op_next {t : Nat} {I : am_mI} {J : am_mJ} {A : am_mI} {B : am_mJ} (h : am_Iv t I J A B) : ∃ r : Int32, DX7_next I = some r ∧ DX8_next A = some r := by
  have f : am_FU = 1000000 := rfl
  obtain ⟨r, r1, r2⟩ := next_sim h 6 (am_FU - 37) (am_FU - 37) 5 (by decide) (by decide)
  rw [show am_FU - 37 + 6 * 6 + 1 = am_FU by omega] at r1 r2
  unfold DX7_next DX4_nextCell DX8_next
  rw [r1, r2, Option.bind_some]
  exact ⟨r, rfl, rfl⟩
theorem wrong_sim {t : Nat} {I : am_mI} {J : am_mJ} {A : am_mI} {B : am_mJ} (h : am_Iv t I J A B) : ∀ (k m m2 : Nat) (s x : Int32), 0 ≤ x.toInt → x.toInt + k = 24 → k < m → k < m2 → ∃ r : Int32, LX4_cellsWrong m I 2 s x = some r ∧ LX8_wrong m2 A s x = some r := by
  intro k
  induction k with
  | zero =>
    intro m m2 s x h0 h1 hm hm2
    obtain ⟨m, rfl⟩ : ∃ j, m = j + 1 := ⟨m - 1, by omega⟩
    obtain ⟨m2, rfl⟩ : ∃ j, m2 = j + 1 := ⟨m2 - 1, by omega⟩
    unfold LX4_cellsWrong LX8_wrong
    have q : (24 : Int32) ≤ x := by ((try simp only [Int32.lt_iff_toInt_lt, Int32.le_iff_toInt_le, Int32.reduceToInt, ← Int32.toNat_toInt, ← Int32.toInt_inj] at *) <;> omega)
    rw [if_pos q, if_pos q]
    exact ⟨_, rfl, rfl⟩
  | succ k ih =>
    intro m m2 s x h0 h1 hm hm2
    obtain ⟨m, rfl⟩ : ∃ j, m = j + 1 := ⟨m - 1, by omega⟩
    obtain ⟨m2, rfl⟩ : ∃ j, m2 = j + 1 := ⟨m2 - 1, by omega⟩
    unfold LX4_cellsWrong LX8_wrong
    have q : ¬ (24 : Int32) ≤ x := by ((try simp only [Int32.lt_iff_toInt_lt, Int32.le_iff_toInt_le, Int32.reduceToInt, ← Int32.toNat_toInt, ← Int32.toInt_inj] at *) <;> omega)
    have x1 : (x + 1).toInt = x.toInt + 1 := i32_succ (n := 24) (by omega) (by omega) (by omega)
    have c1 := xcell (a := x) ⟨h0, by omega⟩
    have c2 := cell_in c1
    have ec : x.toNatClampNeg < 24 := cell_lt c1
    obtain ⟨p0, p1, -⟩ := cellAt h c1
    unfold DX4_hasItsColour
    rw [if_neg q, if_neg q, p1, p0, Option.bind_some, Option.bind_some]
    simp only [if_pos c2.1]
    by_cases l : A 6 x.toNatClampNeg = -1
    · rw [if_pos l, if_pos l]
      exact ih m m2 s (x + 1) (by omega) (by omega) (by omega) (by omega)
    · rw [if_neg l, if_neg l, if_neg l]
      have st := h.stuffed ec l
      obtain ⟨k0, -, k1, -⟩ := stuffAt h st
      rw [k1, if_pos k0, Option.bind_some, Option.bind_some]
      by_cases z : A 3 (A 6 x.toNatClampNeg).toNatClampNeg = A 5 x.toNatClampNeg
      · rw [if_neg (not_not_intro z), if_pos z, Option.bind_some, if_pos (by decide)]
        exact ih m m2 s (x + 1) (by omega) (by omega) (by omega) (by omega)
      · rw [if_pos z, if_neg z, Option.bind_some, if_neg (by decide)]
        exact ih m m2 _ (x + 1) (by omega) (by omega) (by omega) (by omega)
theorem op_wrong {t : Nat} {I : am_mI} {J : am_mJ} {A : am_mI} {B : am_mJ} (h : am_Iv t I J A B) : ∃ r : Int32, DX7_wrong I = some r ∧ DX8_wrong A = some r := by
  obtain ⟨r, r1, r2⟩ := wrong_sim h 24 am_FU am_FU 0 0 (by decide) (by decide) (by decide) (by decide)
  unfold DX7_wrong DX4_cellsWrong DX8_wrong
  rw [r1, r2, Option.bind_some]
  exact ⟨r, rfl, rfl⟩
theorem LX4_coloursLacking_s0 (n : Nat) (I : (Nat → Nat → Int32)) (g0 : Nat) (x1 : Int32) (x2 : Int32) (x3 : Int32) : LX4_coloursLacking (n + 1) 0 I g0 x1 x2 x3 =
    if (24 : Int32) ≤ x2 then
      LX4_coloursLacking n 1 I g0 x1 ((0 : Int32)) ((0 : Int32))
    else
      (DX1_drawnAt I g0 x2).bind fun q4 =>
      if q4 = (-1 : Int32) then
        LX4_coloursLacking n 0 I g0 x1 ((x2 + (1 : Int32))) 0
      else
        (DX1_drawnAt I g0 x2).bind fun q5 =>
        LX4_coloursLacking n 0 I g0 ((x1 ||| ((1 : Int32) <<< (q5 &&& 31)))) ((x2 + (1 : Int32))) 0 := rfl
theorem LX4_coloursLacking_s1 (n : Nat) (I : (Nat → Nat → Int32)) (g0 : Nat) (x1 : Int32) (x2 : Int32) (x3 : Int32) : LX4_coloursLacking (n + 1) 1 I g0 x1 x2 x3 =
    if (DX1_stuffCount I g0) ≤ x3 then
      some ((x1 &&& (x2 ^^^ (-1 : Int32))))
    else
      (DX1_colourOf I g0 x3).bind fun q6 =>
      LX4_coloursLacking n 1 I g0 x1 ((x2 ||| ((1 : Int32) <<< (q6 &&& 31)))) ((x3 + (1 : Int32))) := rfl
theorem LX8_lacking_s0 (n : Nat) (I : (Nat → Nat → Int32)) (x1 : Int32) (x2 : Int32) : LX8_lacking (n + 1) 0 I x1 x2 =
    if (24 : Int32) ≤ x2 then
      LX8_lacking n 1 I x1 ((0 : Int32))
    else
      if ¬ (x2 < 0 ∨ 24 ≤ (x2).toNatClampNeg) then
        if (I 5 (x2).toNatClampNeg) = (-1 : Int32) then
          LX8_lacking n 0 I x1 ((x2 + (1 : Int32)))
        else
          if ¬ (x2 < 0 ∨ 24 ≤ (x2).toNatClampNeg) then
            LX8_lacking n 0 I ((x1 ||| ((1 : Int32) <<< ((I 5 (x2).toNatClampNeg) &&& 31)))) ((x2 + (1 : Int32)))
          else none
      else none := rfl
theorem LX8_lacking_s1 (n : Nat) (I : (Nat → Nat → Int32)) (x1 : Int32) (x2 : Int32) : LX8_lacking (n + 1) 1 I x1 x2 =
    if (I 0 0) ≤ x2 then
      some x1
    else
      if ¬ (x2 < 0 ∨ 8 ≤ (x2).toNatClampNeg) then
        LX8_lacking n 1 I ((x1 &&& (((1 : Int32) <<< ((I 3 (x2).toNatClampNeg) &&& 31)) ^^^ (-1 : Int32)))) ((x2 + (1 : Int32)))
      else none := rfl
theorem lack_bits (a b c : Int32) : a &&& (b ^^^ -1) &&& (c ^^^ -1) = a &&& ((b ||| c) ^^^ -1) := by
  apply Int32.toBitVec_inj.mp
  ext i hi
  have e : (Int32.toBitVec (-1)) = BitVec.allOnes 32 := by decide
  simp only [Int32.toBitVec_and, Int32.toBitVec_xor, Int32.toBitVec_or, BitVec.getElem_and, BitVec.getElem_xor, BitVec.getElem_or, e, BitVec.getElem_allOnes]
  cases a.toBitVec[i] <;> cases b.toBitVec[i] <;> cases c.toBitVec[i] <;> rfl
theorem lack_had {t : Nat} {I : am_mI} {J : am_mJ} {A : am_mI} {B : am_mJ} (h : am_Iv t I J A B) {d : Int32} : ∀ (k m m2 : Nat) (s x : Int32), 0 ≤ x.toInt → x.toInt + k = (A 0 0).toInt → k < m → k < m2 → ∃ r : Int32, LX4_coloursLacking m 1 I 2 d s x = some r ∧ LX8_lacking m2 1 A (d &&& (s ^^^ -1)) x = some r := by
  have hN := h.nn
  intro k
  induction k with
  | zero =>
    intro m m2 s x h0 h1 hm hm2
    obtain ⟨m, rfl⟩ : ∃ j, m = j + 1 := ⟨m - 1, by omega⟩
    obtain ⟨m2, rfl⟩ : ∃ j, m2 = j + 1 := ⟨m2 - 1, by omega⟩
    have q : A 0 0 ≤ x := by rw [Int32.le_iff_toInt_le]; omega
    rw [LX4_coloursLacking_s1, LX8_lacking_s1, h.counted, if_pos q, if_pos q]
    exact ⟨_, rfl, rfl⟩
  | succ k ih =>
    intro m m2 s x h0 h1 hm hm2
    obtain ⟨m, rfl⟩ : ∃ j, m = j + 1 := ⟨m - 1, by omega⟩
    obtain ⟨m2, rfl⟩ : ∃ j, m2 = j + 1 := ⟨m2 - 1, by omega⟩
    have q : ¬ A 0 0 ≤ x := by rw [Int32.le_iff_toInt_le]; omega
    have x1 := stuff_no h0 (n := (A 0 0).toInt) (by omega) hN.2
    have st : ¬ DX8_isStuff A x = 0 := mstuff h0 (by omega)
    obtain ⟨g, -, k1, -⟩ := stuffAt h st
    rw [LX4_coloursLacking_s1, LX8_lacking_s1, h.counted, if_neg q, if_neg q, k1, if_pos g, Option.bind_some, lack_bits]
    exact ih m m2 _ (x + 1) (by omega) (by omega) (by omega) (by omega)
theorem lack_sim {t : Nat} {I : am_mI} {J : am_mJ} {A : am_mI} {B : am_mJ} (h : am_Iv t I J A B) : ∀ (k m m2 : Nat) (s x : Int32), 0 ≤ x.toInt → x.toInt + k = 24 → k + 10 < m → k + 10 < m2 → ∃ r : Int32, LX4_coloursLacking m 0 I 2 s x 0 = some r ∧ LX8_lacking m2 0 A s x = some r := by
  have hN := h.nn
  have v0 : (0 : Int32).toInt = 0 := rfl
  intro k
  induction k with
  | zero =>
    intro m m2 s x h0 h1 hm hm2
    obtain ⟨m, rfl⟩ : ∃ j, m = j + 1 := ⟨m - 1, by omega⟩
    obtain ⟨m2, rfl⟩ : ∃ j, m2 = j + 1 := ⟨m2 - 1, by omega⟩
    have q : (24 : Int32) ≤ x := by ((try simp only [Int32.lt_iff_toInt_lt, Int32.le_iff_toInt_le, Int32.reduceToInt, ← Int32.toNat_toInt, ← Int32.toInt_inj] at *) <;> omega)
    obtain ⟨r, r1, r2⟩ := lack_had h (d := s) (A 0 0).toInt.toNat m m2 0 0 (by omega) (by omega) (by omega) (by omega)
    rw [LX4_coloursLacking_s0, LX8_lacking_s0, if_pos q, if_pos q, r1]
    have e : s &&& (0 ^^^ -1) = s := by
      apply Int32.toBitVec_inj.mp
      ext i hi
      have e : (Int32.toBitVec (0 ^^^ -1)) = BitVec.allOnes 32 := by decide
      simp only [Int32.toBitVec_and, e, BitVec.getElem_and, BitVec.getElem_allOnes, Bool.and_true]
    rw [e] at r2
    exact ⟨r, rfl, r2⟩
  | succ k ih =>
    intro m m2 s x h0 h1 hm hm2
    obtain ⟨m, rfl⟩ : ∃ j, m = j + 1 := ⟨m - 1, by omega⟩
    obtain ⟨m2, rfl⟩ : ∃ j, m2 = j + 1 := ⟨m2 - 1, by omega⟩
    have q : ¬ (24 : Int32) ≤ x := by ((try simp only [Int32.lt_iff_toInt_lt, Int32.le_iff_toInt_le, Int32.reduceToInt, ← Int32.toNat_toInt, ← Int32.toInt_inj] at *) <;> omega)
    have x1 : (x + 1).toInt = x.toInt + 1 := i32_succ (n := 24) (by omega) (by omega) (by omega)
    have c1 := xcell (a := x) ⟨h0, by omega⟩
    have c2 := cell_in c1
    obtain ⟨p0, -⟩ := cellAt h c1
    rw [LX4_coloursLacking_s0, LX8_lacking_s0, if_neg q, if_neg q, p0, Option.bind_some, Option.bind_some]
    simp only [if_pos c2.1]
    by_cases l : A 5 x.toNatClampNeg = -1
    · rw [if_pos l, if_pos l]
      exact ih m m2 s (x + 1) (by omega) (by omega) (by omega) (by omega)
    · rw [if_neg l, if_neg l]
      exact ih m m2 _ (x + 1) (by omega) (by omega) (by omega) (by omega)
theorem op_lacking {t : Nat} {I : am_mI} {J : am_mJ} {A : am_mI} {B : am_mJ} (h : am_Iv t I J A B) : ∃ r : Int32, DX7_lacking I = some r ∧ DX8_lacking A = some r := by
  obtain ⟨r, r1, r2⟩ := lack_sim h 24 am_FU am_FU 0 0 (by decide) (by decide) (by decide) (by decide)
  unfold DX7_lacking DX4_coloursLacking DX8_lacking
  rw [r1, r2, Option.bind_some]
  exact ⟨r, rfl, rfl⟩
