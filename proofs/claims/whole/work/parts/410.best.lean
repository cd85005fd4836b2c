/-! SENTENCES: which stuffs, the best stuff, what a shelf says -/
theorem stuff_no {x : Int32} {n : Int} (h0 : 0 ≤ x.toInt) (h1 : x.toInt < n) (hn : n ≤ 8) : (x + 1).toInt = x.toInt + 1 := i32_succ (n := 8) (by omega) (by omega) (by omega)
theorem am_Iv.counted {t : Nat} {I : am_mI} {J : am_mJ} {A : am_mI} {B : am_mJ} (h : am_Iv t I J A B) : DX1_stuffCount I 2 = A 0 0 := h.bd.n0
theorem was_sim {t : Nat} {I : am_mI} {J : am_mJ} {A : am_mI} {B : am_mJ} (h : am_Iv t I J A B) {a b c d : Int32} (h1 : 0 ≤ a.toInt ∧ a.toInt ≤ 62000000) (h2 : 0 ≤ b.toInt ∧ b.toInt ≤ 62000000) (h3 : 0 ≤ c.toInt ∧ c.toInt ≤ 62000000) :
    ∀ (k m m2 : Nat) (s x : Int32), 0 ≤ x.toInt → x.toInt + k = (A 0 0).toInt → k < m → k < m2 → ∃ r : Int32, LX4_stuffsAsFresh m I 2 a b c d s x = some r ∧ LX8_was m2 A B a b c d s x = some (r, A, B) := by
  have hN := h.nn
  intro k
  induction k with
  | zero =>
    intro m m2 s x h0 h1 hm hm2
    obtain ⟨m, rfl⟩ : ∃ j, m = j + 1 := ⟨m - 1, by omega⟩
    obtain ⟨m2, rfl⟩ : ∃ j, m2 = j + 1 := ⟨m2 - 1, by omega⟩
    unfold LX4_stuffsAsFresh LX8_was
    have q : A 0 0 ≤ x := by rw [Int32.le_iff_toInt_le]; omega
    rw [h.counted, if_pos q, if_pos q]
    exact ⟨s, rfl, rfl⟩
  | succ k ih =>
    intro m m2 s x h0 h1 hm hm2
    obtain ⟨m, rfl⟩ : ∃ j, m = j + 1 := ⟨m - 1, by omega⟩
    obtain ⟨m2, rfl⟩ : ∃ j, m2 = j + 1 := ⟨m2 - 1, by omega⟩
    unfold LX4_stuffsAsFresh LX8_was
    have q : ¬ A 0 0 ≤ x := by rw [Int32.le_iff_toInt_le]; omega
    have x1 := stuff_no h0 (n := (A 0 0).toInt) (by omega) hN.2
    have st : ¬ DX8_isStuff A x = 0 := mstuff h0 (by omega)
    obtain ⟨g, k1, -, k2⟩ := stuffAt h st
    obtain ⟨r, r1, r2, -⟩ := stuffFresh h st (x := a) (y := b) (z := c) (by assumption) h2 h3
    rw [h.counted, if_neg q, if_neg q, k1, k2, Option.bind_some, Option.bind_some, r1, r2, Option.bind_some, Option.bind_some]
    by_cases z : ¬ r = d
    · rw [if_pos z, if_pos z]
      exact ih m m2 s (x + 1) (by omega) (by omega) (by omega) (by omega)
    · rw [if_neg z, if_neg z]
      exact ih m m2 _ (x + 1) (by omega) (by omega) (by omega) (by omega)
theorem op_was {t : Nat} {I : am_mI} {J : am_mJ} {A : am_mI} {B : am_mJ} (h : am_Iv t I J A B) (a b c d : Int32) : am_Tw (t + 20000) (DX7_was I J a b c d) (DX8_was A B a b c d) := by
  unfold DX7_was DX8_was
  have hN := h.nn
  rw [op_isHour, op_isHour]
  by_cases c1 : DX7_isHour a = 0
  · rw [if_pos c1, if_pos c1]
    exact .no6 h
  rw [if_neg c1, if_neg c1]
  by_cases c2 : DX7_isHour b = 0
  · rw [if_pos c2, if_pos c2]
    exact .no6 h
  rw [if_neg c2, if_neg c2]
  by_cases c3 : c < 0
  · rw [if_pos c3, if_pos c3]
    exact .no6 h
  rw [if_neg c3, if_neg c3]
  by_cases c4 : (20 : Int32) < c
  · rw [if_pos c4, if_pos c4]
    exact .no6 h
  rw [if_neg c4, if_neg c4]
  by_cases c5 : d < 0
  · rw [if_pos c5, if_pos c5]
    exact .no6 h
  rw [if_neg c5, if_neg c5]
  by_cases c6 : (9 : Int32) < d
  · have c7 : ¬ d ≤ (9 : Int32) := by ((try simp only [Int32.lt_iff_toInt_lt, Int32.le_iff_toInt_le, Int32.reduceToInt, ← Int32.toNat_toInt, ← Int32.toInt_inj] at *) <;> omega)
    rw [if_pos c6, if_neg c7]
    exact .no6 h
  have c7 : d ≤ (9 : Int32) := by ((try simp only [Int32.lt_iff_toInt_lt, Int32.le_iff_toInt_le, Int32.reduceToInt, ← Int32.toNat_toInt, ← Int32.toInt_inj] at *) <;> omega)
  rw [if_neg c6, if_pos c7]
  have ha := hour_in c1
  have hb := hour_in c2
  have hc : 0 ≤ c.toInt ∧ c.toInt ≤ 20 := by ((try simp only [Int32.lt_iff_toInt_lt, Int32.le_iff_toInt_le, Int32.reduceToInt, ← Int32.toNat_toInt, ← Int32.toInt_inj] at *) <;> omega)
  obtain ⟨r, r1, r2⟩ := was_sim h (a := a) (b := b) (c := c) (d := d) (by omega) (by omega) (by omega) (A 0 0).toInt.toNat am_FU am_FU 0 0 (by decide) (by have v : (0 : Int32).toInt = 0 := rfl; omega) (by have : am_FU = 1000000 := rfl; omega) (by have : am_FU = 1000000 := rfl; omega)
  unfold DX4_stuffsAsFresh
  rw [r1, r2, Option.bind_some]
  exact .mk1 h
theorem LX8_best_s0 (n : Nat) (I : (Nat → Nat → Int32)) (J : (Nat → Nat → Int64)) (x1 : Int32) (x2 : Int32) (x3 : Int32) (x4 : Int32) (x5 : Int32) (x6 : Int32) (x7 : Int32) (x8 : Int32) (x9 : Int32) (x10 : Int32) : LX8_best (n + 1) 0 I J x1 x2 x3 x4 x5 x6 x7 x8 x9 x10 =
    if (I 0 0) ≤ x7 then
      some (x5, I, J)
    else
      if ¬ (x7 < 0 ∨ 8 ≤ (x7).toNatClampNeg) then
        if ¬ (x1 < 0 ∨ 24 ≤ (x1).toNatClampNeg) then
          if (I 3 (x7).toNatClampNeg) = (I 5 (x1).toNatClampNeg) then
            LX8_best n 1 I J x1 x2 x3 x4 x5 x6 x7 ((0 : Int32)) ((9 : Int32)) x2
          else
            LX8_best n 0 I J x1 x2 x3 x4 x5 x6 ((x7 + (1 : Int32))) 0 0 0
        else none
      else none := rfl
theorem LX8_best_s1 (n : Nat) (I : (Nat → Nat → Int32)) (J : (Nat → Nat → Int64)) (x1 : Int32) (x2 : Int32) (x3 : Int32) (x4 : Int32) (x5 : Int32) (x6 : Int32) (x7 : Int32) (x8 : Int32) (x9 : Int32) (x10 : Int32) : LX8_best (n + 1) 1 I J x1 x2 x3 x4 x5 x6 x7 x8 x9 x10 =
    if x3 < x10 then
      if ¬ x4 = 0 then
        if x6 < x9 then
          LX8_best n 0 I J x1 x2 x3 x4 x7 x9 ((x7 + (1 : Int32))) 0 0 0
        else
          LX8_best n 0 I J x1 x2 x3 x4 x5 x6 ((x7 + (1 : Int32))) 0 0 0
      else
        if x6 < x8 then
          LX8_best n 0 I J x1 x2 x3 x4 x7 x8 ((x7 + (1 : Int32))) 0 0 0
        else
          LX8_best n 0 I J x1 x2 x3 x4 x5 x6 ((x7 + (1 : Int32))) 0 0 0
    else
      (DX8_inSun I x1).bind fun q8 =>
      if q8 = 0 then
        (DX8_freshOf I x7 ((0 : Int32)) x10 ((0 : Int32))).bind fun q9 =>
        if x9 ≤ q9 then
          LX8_best n 1 I J x1 x2 x3 x4 x5 x6 x7 ((x8 + q9)) x9 ((x10 + (1 : Int32)))
        else
          LX8_best n 1 I J x1 x2 x3 x4 x5 x6 x7 ((x8 + q9)) q9 ((x10 + (1 : Int32)))
      else
        (DX8_freshOf I x7 x10 ((0 : Int32)) ((0 : Int32))).bind fun q10 =>
        if x9 ≤ q10 then
          LX8_best n 1 I J x1 x2 x3 x4 x5 x6 x7 ((x8 + q10)) x9 ((x10 + (1 : Int32)))
        else
          LX8_best n 1 I J x1 x2 x3 x4 x5 x6 x7 ((x8 + q10)) q10 ((x10 + (1 : Int32))) := rfl
theorem worth_sim {t : Nat} {I : am_mI} {J : am_mJ} {A : am_mI} {B : am_mJ} (h : am_Iv t I J A B) {c f t2 how s q b l : Int32} (st : ¬ DX8_isStuff A s = 0) (hq : DX8_inSun A c = some q) (hf : t2.toInt ≤ 240) :
    ∀ (k m m2 : Nat) (w e x : Int32), 0 ≤ x.toInt → x.toInt + k = t2.toInt + 1 → k < m → ∃ r : Int32, LX4_worthLaidNow m I 2 s q t2 how w e x = some r ∧
      LX8_best (m2 + k + 1) 1 A B c f t2 how b l s w e x = if l < r then LX8_best m2 0 A B c f t2 how s r (s + 1) 0 0 0 else LX8_best m2 0 A B c f t2 how b l (s + 1) 0 0 0 := by
  intro k
  induction k with
  | zero =>
    intro m m2 w e x h0 h1 hm
    obtain ⟨m, rfl⟩ : ∃ j, m = j + 1 := ⟨m - 1, by omega⟩
    unfold LX4_worthLaidNow
    rw [LX8_best_s1]
    have q : t2 < x := by rw [Int32.lt_iff_toInt_lt]; omega
    rw [if_pos q, if_pos q]
    by_cases p : ¬ how = 0
    · rw [if_pos p, if_pos p]
      exact ⟨_, rfl, rfl⟩
    · rw [if_neg p, if_neg p]
      exact ⟨_, rfl, rfl⟩
  | succ k ih =>
    intro m m2 w e x h0 h1 hm
    obtain ⟨m, rfl⟩ : ∃ j, m = j + 1 := ⟨m - 1, by omega⟩
    rw [show m2 + (k + 1) + 1 = (m2 + k + 1) + 1 from rfl]
    unfold LX4_worthLaidNow
    rw [LX8_best_s1]
    have q1 : ¬ t2 < x := by rw [Int32.lt_iff_toInt_lt]; omega
    have x1 : (x + 1).toInt = x.toInt + 1 := i32_succ (n := 241) (by omega) (by omega) (by omega)
    have v0 : (0 : Int32).toInt = 0 := rfl
    obtain ⟨g, k1, -, k2⟩ := stuffAt h st
    rw [if_neg q1, if_neg q1, k1, k2, Option.bind_some, Option.bind_some, hq, Option.bind_some]
    by_cases p : q = 0
    · obtain ⟨r, r1, r2, -⟩ := stuffFresh h st (x := 0) (y := x) (z := 0) (by omega) (by omega) (by omega)
      rw [if_pos p, if_pos p, if_pos p, r1, r2, Option.bind_some, Option.bind_some]
      by_cases o : e ≤ r
      · have o2 : ¬ r < e := by rw [Int32.lt_iff_toInt_lt]; rw [Int32.le_iff_toInt_le] at o; omega
        rw [if_pos o, if_neg o2]
        exact ih m m2 (w + r) e (x + 1) (by omega) (by omega) (by omega)
      · have o2 : r < e := by rw [Int32.lt_iff_toInt_lt]; rw [Int32.le_iff_toInt_le] at o; omega
        rw [if_neg o, if_pos o2]
        exact ih m m2 (w + r) r (x + 1) (by omega) (by omega) (by omega)
    · obtain ⟨r, r1, r2, -⟩ := stuffFresh h st (x := x) (y := 0) (z := 0) (by omega) (by omega) (by omega)
      rw [if_neg p, if_neg p, if_neg p, r1, r2, Option.bind_some, Option.bind_some]
      by_cases o : e ≤ r
      · have o2 : ¬ r < e := by rw [Int32.lt_iff_toInt_lt]; rw [Int32.le_iff_toInt_le] at o; omega
        rw [if_pos o, if_neg o2]
        exact ih m m2 (w + r) e (x + 1) (by omega) (by omega) (by omega)
      · have o2 : r < e := by rw [Int32.lt_iff_toInt_lt]; rw [Int32.le_iff_toInt_le] at o; omega
        rw [if_neg o, if_pos o2]
        exact ih m m2 (w + r) r (x + 1) (by omega) (by omega) (by omega)
theorem best_sim {t : Nat} {I : am_mI} {J : am_mJ} {A : am_mI} {B : am_mJ} (h : am_Iv t I J A B) {c f t2 how : Int32} (cc : ¬ DX7_isCell c = 0) (hf : ¬ DX7_areHours f t2 = 0) :
    ∀ (k m m2 : Nat) (b l x : Int32), 0 ≤ x.toInt → x.toInt + k = (A 0 0).toInt → k < m → 300 * k < m2 → ∃ r : Int32, LX4_bestStuff m I 2 c f t2 how b l x = some r ∧ LX8_best m2 0 A B c f t2 how b l x 0 0 0 = some (r, A, B) := by
  have hN := h.nn
  have hr := hours_in hf
  obtain ⟨d0, -⟩ := cellAt h cc
  have c2 := cell_in cc
  obtain ⟨q, q1, q2, -⟩ := sunAs (A := A) c2.2 h.sided.2 rfl
  intro k
  induction k with
  | zero =>
    intro m m2 b l x h0 h1 hm hm2
    obtain ⟨m, rfl⟩ : ∃ j, m = j + 1 := ⟨m - 1, by omega⟩
    obtain ⟨m2, rfl⟩ : ∃ j, m2 = j + 1 := ⟨m2 - 1, by omega⟩
    unfold LX4_bestStuff
    rw [LX8_best_s0]
    have q : A 0 0 ≤ x := by rw [Int32.le_iff_toInt_le]; omega
    rw [h.counted, if_pos q, if_pos q]
    exact ⟨b, rfl, rfl⟩
  | succ k ih =>
    intro m m2 b l x h0 h1 hm hm2
    obtain ⟨m, rfl⟩ : ∃ j, m = j + 1 := ⟨m - 1, by omega⟩
    obtain ⟨m2, rfl⟩ : ∃ j, m2 = j + 1 := ⟨m2 - 1, by omega⟩
    unfold LX4_bestStuff
    rw [LX8_best_s0]
    have q : ¬ A 0 0 ≤ x := by rw [Int32.le_iff_toInt_le]; omega
    have x1 := stuff_no h0 (n := (A 0 0).toInt) (by omega) hN.2
    have st : ¬ DX8_isStuff A x = 0 := mstuff h0 (by omega)
    obtain ⟨g, -, k1, -⟩ := stuffAt h st
    rw [h.counted, if_neg q, if_neg q, k1, d0, Option.bind_some, Option.bind_some, if_pos g, if_pos c2.1, h.sided.1, q1, Option.bind_some]
    by_cases z : A 3 x.toNatClampNeg = A 5 c.toNatClampNeg
    · rw [if_pos z, if_pos z]
      have e : m2 = (m2 - ((t2.toInt + 1 - f.toInt).toNat + 1)) + (t2.toInt + 1 - f.toInt).toNat + 1 := by omega
      obtain ⟨r, r1, r2⟩ := worth_sim h (f := f) (how := how) (b := b) (l := l) st q2 hr.2.2 (t2.toInt + 1 - f.toInt).toNat am_FU (m2 - ((t2.toInt + 1 - f.toInt).toNat + 1)) 0 9 f (by omega) (by omega) (by have : am_FU = 1000000 := rfl; omega)
      rw [← e] at r2
      unfold DX4_worthLaidNow
      rw [r1, r2, Option.bind_some]
      by_cases y : l < r
      · have y2 : ¬ r ≤ l := by rw [Int32.le_iff_toInt_le]; rw [Int32.lt_iff_toInt_lt] at y; omega
        rw [if_pos y, if_neg y2]
        exact ih m _ x r (x + 1) (by omega) (by omega) (by omega) (by omega)
      · have y2 : r ≤ l := by rw [Int32.le_iff_toInt_le]; rw [Int32.lt_iff_toInt_lt] at y; omega
        rw [if_neg y, if_pos y2]
        exact ih m _ b l (x + 1) (by omega) (by omega) (by omega) (by omega)
    · rw [if_neg z, if_neg z]
      exact ih m m2 b l (x + 1) (by omega) (by omega) (by omega) (by omega)
theorem op_best {t : Nat} {I : am_mI} {J : am_mJ} {A : am_mI} {B : am_mJ} (h : am_Iv t I J A B) (c f e how : Int32) : am_Tw (t + 20000) (DX7_best I J c f e how) (DX8_best A B c f e how) := by
  unfold DX7_best DX8_best
  have hN := h.nn
  rw [op_isCell, op_areHours]
  by_cases cc : ¬ DX7_isCell c = 0
  · rw [if_pos cc, if_pos cc]
    have key : am_Tw (t + 20000) (if ¬ DX7_areHours f e = 0 then (DX4_bestStuff I 2 c f e how).bind fun q1 => some (q1, I, J) else (DX7_refuse I J (-16)).bind fun q2 => some (q2.1, q2.2.1, q2.2.2))
        (if ¬ DX7_areHours f e = 0 then LX8_best am_FU 0 A B c f e how (-1) (-1) 0 0 0 0 else (DX8_noTen A B (-6)).bind fun q2 => some (q2.1, q2.2.1, q2.2.2)) := by
      by_cases hf : ¬ DX7_areHours f e = 0
      · rw [if_pos hf, if_pos hf]
        obtain ⟨r, r1, r2⟩ := best_sim h (how := how) cc hf (A 0 0).toInt.toNat am_FU am_FU (-1) (-1) 0 (by decide) (by have v : (0 : Int32).toInt = 0 := rfl; omega) (by have : am_FU = 1000000 := rfl; omega) (by have : am_FU = 1000000 := rfl; omega)
        unfold DX4_bestStuff
        rw [r1, r2, Option.bind_some]
        exact .mk1 h
      · rw [if_neg hf, if_neg hf]
        exact .noTen6 h
    by_cases h0 : how = 0
    · rw [if_pos h0, if_neg (show ¬ how < 0 by rw [h0]; decide), if_pos (show how ≤ 1 by rw [h0]; decide)]
      exact key
    · rw [if_neg h0]
      by_cases h1 : how = 1
      · rw [if_pos h1, if_neg (show ¬ how < 0 by rw [h1]; decide), if_pos (show how ≤ 1 by rw [h1]; decide)]
        exact key
      · rw [if_neg h1]
        by_cases h2 : how < 0
        · rw [if_pos h2]
          exact .noTen5 h
        · have h3 : ¬ how ≤ 1 := by ((try simp only [Int32.lt_iff_toInt_lt, Int32.le_iff_toInt_le, Int32.reduceToInt, ← Int32.toNat_toInt, ← Int32.toInt_inj] at *) <;> omega)
          rw [if_neg h2, if_neg h3]
          exact .noTen5 h
  · rw [if_neg cc, if_neg cc]
    exact .noTen1 h
