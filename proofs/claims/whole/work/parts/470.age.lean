/-! SENTENCES: boards become like others -/
def am_b1 (I : am_mI) (o g : Nat) : am_mI := am_cpI (am_cpI (am_cpI I (g + 1) (o + 1) 0 0 8) (g + 2) (o + 2) 0 0 8) (g + 3) (o + 3) 0 0 8
def am_b2 (I : am_mI) (o g : Nat) : am_mI := am_cpI (am_cpI (am_cpI (am_cpI (am_cpI (am_cpI I (g + 4) (o + 4) 0 0 24) (g + 5) (o + 5) 0 0 24) (g + 6) (o + 6) 0 0 24) (g + 7) (o + 7) 0 0 24) (g + 8) (o + 8) 0 0 24) (g + 9) (o + 9) 0 0 24
def am_b3 (I : am_mI) (o g k : Nat) : am_mI := am_upI I o k (I g k)
def am_b4 (I : am_mI) (o g : Nat) : am_mI := am_b3 (am_b3 (am_b3 (am_b3 (am_b3 (am_b2 (am_b3 (am_b1 I o g) o g 3) o g) o g 10) o g 11) o g 12) o g 13) o g 14
theorem becomes (I : am_mI) (J : am_mJ) (o g : Nat) : DX1_becomeLike I J o g = some (0, am_b4 I o g, J) := by
  have c8 : (¬ (0 : Int32) < 0 ∧ ¬ (0 : Int32) < 0 ∧ ¬ (8 : Int32) < 0) ∧ ((0 : Int32)).toNatClampNeg + ((8 : Int32)).toNatClampNeg ≤ 8 ∧ ((0 : Int32)).toNatClampNeg + ((8 : Int32)).toNatClampNeg ≤ 8 := by decide
  have c24 : (¬ (0 : Int32) < 0 ∧ ¬ (0 : Int32) < 0 ∧ ¬ (24 : Int32) < 0) ∧ ((0 : Int32)).toNatClampNeg + ((24 : Int32)).toNatClampNeg ≤ 24 ∧ ((0 : Int32)).toNatClampNeg + ((24 : Int32)).toNatClampNeg ≤ 24 := by decide
  unfold DX1_becomeLike
  rw [if_pos c8, Option.bind_some, if_pos c8, Option.bind_some, if_pos c8, Option.bind_some, if_pos c24, Option.bind_some, if_pos c24, Option.bind_some, if_pos c24, Option.bind_some, if_pos c24, Option.bind_some, if_pos c24, Option.bind_some, if_pos c24, Option.bind_some, Option.bind_some]
  rfl
/-- the board at o as the one at g -/
def am_bl (I : am_mI) (o g : Nat) : am_mI := fun a b =>
  if a = o then (if b = 3 ∨ b = 10 ∨ b = 11 ∨ b = 12 ∨ b = 13 ∨ b = 14 then I g b else I o b)
  else if o < a ∧ a ≤ o + 3 then (if b < 8 then I (g + (a - o)) b else I a b)
  else if o < a ∧ a ≤ o + 9 then (if b < 24 then I (g + (a - o)) b else I a b) else I a b
theorem b4_one {I : am_mI} {o g k : Nat} (n : o ≠ g) : am_b3 I o g k g = I g := am_upI_ne (Ne.symm n)
theorem cpI_ne {I : am_mI} {g h s d n a : Nat} (q : a ≠ h) : am_cpI I g h s d n a = I a := by
  funext b
  unfold am_cpI
  rw [if_neg q]
theorem cpI_at {I : am_mI} {g h n : Nat} : am_cpI I g h 0 0 n h = fun b => if b < n then I g b else I h b := by
  funext b
  unfold am_cpI va_cpy
  rw [if_pos rfl]
  by_cases c : b < n
  · rw [if_pos c, if_pos (by omega), Nat.zero_add, Nat.sub_zero]
  · rw [if_neg c, if_neg (by omega)]
theorem b1_off {I : am_mI} {o g a : Nat} (h : a ≤ o ∨ o + 3 < a) : am_b1 I o g a = I a := by
  unfold am_b1
  rw [cpI_ne (by omega), cpI_ne (by omega), cpI_ne (by omega)]
theorem b2_off {I : am_mI} {o g a : Nat} (h : a < o + 4 ∨ o + 9 < a) : am_b2 I o g a = I a := by
  unfold am_b2
  rw [cpI_ne (by omega), cpI_ne (by omega), cpI_ne (by omega), cpI_ne (by omega), cpI_ne (by omega), cpI_ne (by omega)]
theorem b1_at {I : am_mI} {o g q : Nat} (n : o + 10 ≤ g ∨ g + 10 ≤ o) (hq : 1 ≤ q ∧ q ≤ 3) : am_b1 I o g (o + q) = fun b => if b < 8 then I (g + q) b else I (o + q) b := by
  have e : q = 1 ∨ q = 2 ∨ q = 3 := by omega
  unfold am_b1
  rcases e with rfl | rfl | rfl
  · rw [cpI_ne (by omega), cpI_ne (by omega), cpI_at]
  · rw [cpI_ne (by omega), cpI_at, cpI_ne (by omega), cpI_ne (by omega)]
  · rw [cpI_at, cpI_ne (by omega), cpI_ne (by omega), cpI_ne (by omega), cpI_ne (by omega)]
theorem b2_at {I : am_mI} {o g q : Nat} (n : o + 10 ≤ g ∨ g + 10 ≤ o) (hq : 4 ≤ q ∧ q ≤ 9) : am_b2 I o g (o + q) = fun b => if b < 24 then I (g + q) b else I (o + q) b := by
  have e : q = 4 ∨ q = 5 ∨ q = 6 ∨ q = 7 ∨ q = 8 ∨ q = 9 := by omega
  unfold am_b2
  rcases e with rfl | rfl | rfl | rfl | rfl | rfl
  · rw [cpI_ne (by omega), cpI_ne (by omega), cpI_ne (by omega), cpI_ne (by omega), cpI_ne (by omega), cpI_at]
  · rw [cpI_ne (by omega), cpI_ne (by omega), cpI_ne (by omega), cpI_ne (by omega), cpI_at, cpI_ne (by omega), cpI_ne (by omega)]
  · rw [cpI_ne (by omega), cpI_ne (by omega), cpI_ne (by omega), cpI_at, cpI_ne (by omega), cpI_ne (by omega), cpI_ne (by omega), cpI_ne (by omega)]
  · rw [cpI_ne (by omega), cpI_ne (by omega), cpI_at, cpI_ne (by omega), cpI_ne (by omega), cpI_ne (by omega), cpI_ne (by omega), cpI_ne (by omega), cpI_ne (by omega)]
  · rw [cpI_ne (by omega), cpI_at, cpI_ne (by omega), cpI_ne (by omega), cpI_ne (by omega), cpI_ne (by omega), cpI_ne (by omega), cpI_ne (by omega), cpI_ne (by omega), cpI_ne (by omega)]
  · rw [cpI_at, cpI_ne (by omega), cpI_ne (by omega), cpI_ne (by omega), cpI_ne (by omega), cpI_ne (by omega), cpI_ne (by omega), cpI_ne (by omega), cpI_ne (by omega), cpI_ne (by omega), cpI_ne (by omega)]
theorem b4_is {I : am_mI} {o g : Nat} (n : o + 10 ≤ g ∨ g + 10 ≤ o) : am_b4 I o g = am_bl I o g := by
  funext a
  by_cases p : a = o
  · subst p
    have e1 : am_b2 (am_b3 (am_b1 I a g) a g 3) a g g = I g := by
      rw [b2_off (by omega), b4_one (by omega), b1_off (by omega)]
    have e2 : am_b2 (am_b3 (am_b1 I a g) a g 3) a g a = am_upI I a 3 (I g 3) a := by
      rw [b2_off (by omega)]
      unfold am_b3
      rw [am_upI_at, am_upI_at, b1_off (by omega), b1_off (by omega)]
    unfold am_b4
    generalize am_b2 (am_b3 (am_b1 I a g) a g 3) a g = M at *
    funext b
    unfold am_bl
    rw [if_pos rfl]
    have m : ∀ k, am_b3 M a g k g = I g := fun k => (b4_one (by omega)).trans e1
    have m1 : ∀ M' k, M' g = I g → am_b3 M' a g k g = I g := fun M' k q => (b4_one (by omega)).trans q
    have m2 : ∀ M' k b, M' g = I g → am_b3 M' a g k a b = if b = k then I g k else M' a b := by
      intro M' k b q
      unfold am_b3
      rw [am_upI_at, q]
    have g10 := m1 M 10 e1
    have g11 := m1 _ 11 g10
    have g12 := m1 _ 12 g11
    have g13 := m1 _ 13 g12
    rw [m2 _ 14 b g13, m2 _ 13 b g12, m2 _ 12 b g11, m2 _ 11 b g10, m2 _ 10 b e1, e2, am_upI_at]
    by_cases q14 : b = 14
    · rw [if_pos q14, if_pos (by omega), q14]
    rw [if_neg q14]
    by_cases q13 : b = 13
    · rw [if_pos q13, if_pos (by omega), q13]
    rw [if_neg q13]
    by_cases q12 : b = 12
    · rw [if_pos q12, if_pos (by omega), q12]
    rw [if_neg q12]
    by_cases q11 : b = 11
    · rw [if_pos q11, if_pos (by omega), q11]
    rw [if_neg q11]
    by_cases q10 : b = 10
    · rw [if_pos q10, if_pos (by omega), q10]
    rw [if_neg q10]
    by_cases q3 : b = 3
    · rw [if_pos (by omega)]
      show (if b = 3 then I g 3 else I a b) = I g b
      rw [if_pos q3, q3]
    · rw [if_neg (by omega)]
      show (if b = 3 then I g 3 else I a b) = I a b
      rw [if_neg q3]
  · have e : am_b4 I o g a = am_b2 (am_b3 (am_b1 I o g) o g 3) o g a := by
      unfold am_b4 am_b3
      rw [am_upI_ne p, am_upI_ne p, am_upI_ne p, am_upI_ne p, am_upI_ne p]
    rw [e]
    funext b
    unfold am_bl
    rw [if_neg p]
    by_cases p3 : o < a ∧ a ≤ o + 3
    · obtain ⟨q, rfl⟩ : ∃ q, a = o + q := ⟨a - o, by omega⟩
      have e3 : am_b3 (am_b1 I o g) o g 3 (o + q) = am_b1 I o g (o + q) := am_upI_ne p
      rw [if_pos p3, b2_off (by omega), e3, b1_at n (by omega), Nat.add_sub_cancel_left]
    · rw [if_neg p3]
      by_cases p9 : o < a ∧ a ≤ o + 9
      · obtain ⟨q, rfl⟩ : ∃ q, a = o + q := ⟨a - o, by omega⟩
        have e3 : am_b3 (am_b1 I o g) o g 3 (o + q) = am_b1 I o g (o + q) := am_upI_ne p
        have e4 : am_b3 (am_b1 I o g) o g 3 (g + q) = am_b1 I o g (g + q) := am_upI_ne (by omega)
        rw [if_pos p9, b2_at n (by omega), e3, e4, b1_off (by omega), b1_off (by omega), Nat.add_sub_cancel_left]
      · have e3 : am_b3 (am_b1 I o g) o g 3 a = am_b1 I o g a := am_upI_ne p
        rw [if_neg p9, b2_off (by omega), e3, b1_off (by omega)]
theorem likeAs (I : am_mI) (J : am_mJ) {o g : Nat} (n : o + 10 ≤ g ∨ g + 10 ≤ o) : DX1_becomeLike I J o g = some (0, am_bl I o g, J) := by
  rw [becomes, b4_is n]
/-! SENTENCES: what rows tell; age; judge -/
theorem tellAs {t : Nat} {I : am_mI} {J : am_mJ} {A : am_mI} {B : am_mJ} (h : am_Iv t I J A B) (a n : Int32) : (DX7_shelfAt a = 0 ∧ DX8_bars A a n = some (-1)) ∨ (∃ s b, s < 8 ∧ a.toNatClampNeg = s ∧ a.toInt = (s : Int) ∧ DX7_shelfAt a = 41 + 2 * s ∧ DX8_bars A a n = some b ∧ DX7_tellingTrouble I (41 + 2 * s) n = b ∧ (b = 0 ∨ b = -2 ∨ b = -3 ∨ b = -4 ∨ b = -5) ∧ (b = 0 → A 11 s = 1 ∧ 0 ≤ n.toInt ∧ n.toInt ≤ (A 13 s).toInt)) := by
  unfold DX8_bars DX8_wanted
  rcases shelf_in a with ⟨h1, h2⟩ | ⟨s, hs, e1, e2, h1, h2, h3⟩
  · left
    refine ⟨h1, ?_⟩
    rw [if_neg (not_not_intro h2)]
    rfl
  · right
    obtain ⟨c1, c2, c3, c4, c5, c6, c7, c8, c9, c10⟩ := h.sh s hs
    rw [if_pos h2]
    simp only [if_pos h3]
    rw [e1]
    refine ⟨s, ?_⟩
    unfold DX7_tellingTrouble DX3_rowTrouble DX3_holdsStuff DX3_holdsRow
    rw [c1]
    have z0 : (0 : Int32).toInt = 0 := rfl
    rcases c6 with q | q | q
    · rw [q]
      exact ⟨-3, hs, rfl, e2, h1, rfl, rfl, by decide, fun f => absurd f (by decide)⟩
    · rw [q]
      by_cases n0 : 0 ≤ n
      · have hn : 0 ≤ n.toInt := by
          rw [Int32.le_iff_toInt_le] at n0
          omega
        rw [has_tab (c3 q) c7 hn, z0]
        by_cases y : n ≤ A 13 s
        · rw [Int32.le_iff_toInt_le] at y
          refine ⟨0, hs, rfl, e2, h1, ?_, ?_, by decide, fun _ => ⟨rfl, hn, y⟩⟩
          · show (if (0 : Int32) ≤ n then (if n ≤ A 13 s then some (0 : Int32) else some (-5)) else some (-4)) = _
            rw [if_pos n0, if_pos (Int32.le_iff_toInt_le.mpr y)]
          · show (if (0 : Int32) ≤ n then (if (if (0 : Int) ≤ 0 ∧ 0 + n.toInt ≤ (A 13 s).toInt then (1 : Int32) else 0) = 0 then (-5 : Int32) else 0) else -4) = 0
            rw [if_pos n0, if_pos (show (0 : Int) ≤ 0 ∧ 0 + n.toInt ≤ (A 13 s).toInt by omega), if_neg (by decide)]
        · refine ⟨-5, hs, rfl, e2, h1, ?_, ?_, by decide, fun f => absurd f (by decide)⟩
          · show (if (0 : Int32) ≤ n then (if n ≤ A 13 s then some (0 : Int32) else some (-5)) else some (-4)) = _
            rw [if_pos n0, if_neg y]
          · rw [Int32.le_iff_toInt_le] at y
            show (if (0 : Int32) ≤ n then (if (if (0 : Int) ≤ 0 ∧ 0 + n.toInt ≤ (A 13 s).toInt then (1 : Int32) else 0) = 0 then (-5 : Int32) else 0) else -4) = -5
            rw [if_pos n0, if_neg (show ¬ ((0 : Int) ≤ 0 ∧ 0 + n.toInt ≤ (A 13 s).toInt) by omega), if_pos rfl]
      · refine ⟨-4, hs, rfl, e2, h1, ?_, ?_, by decide, fun f => absurd f (by decide)⟩
        · show (if (0 : Int32) ≤ n then (if n ≤ A 13 s then some (0 : Int32) else some (-5)) else some (-4)) = _
          rw [if_neg n0]
        · show (if (0 : Int32) ≤ n then _ else (-4 : Int32)) = -4
          rw [if_neg n0]
    · rw [q]
      exact ⟨-2, hs, rfl, e2, h1, rfl, rfl, by decide, fun f => absurd f (by decide)⟩
theorem toldAs {t : Nat} {I : am_mI} {J : am_mJ} {A : am_mI} {B : am_mJ} (h : am_Iv t I J A B) {a i : Int32} {s : Nat} (hs : s < 8) (ea : a.toInt = (s : Int)) (hr : A 11 s = 1) (h0 : 0 ≤ i.toInt) (h1 : i.toInt < (A 13 s).toInt) : ∃ v : Int32, DX3_toldAt I J (41 + 2 * s) i = some v ∧ DX8_intAt B a i = some v := by
  obtain ⟨c1, c2, c3, c4, c5, c6, c7, c8, c9, c10⟩ := h.sh s hs
  have e9 : i.toNatClampNeg = i.toInt.toNat := rfl
  have z0 : (0 : Int32).toInt = 0 := rfl
  have z160 : (160 : Int32).toInt = 160 := rfl
  obtain ⟨x1, x2⟩ := shelf_ix (i := i) hs ea h0 (by omega)
  have i0 : ¬ i < 0 := by
    rw [Int32.lt_iff_toInt_lt]
    omega
  have k0 : ¬ A 13 s ≤ i := by
    rw [Int32.le_iff_toInt_le]
    omega
  have k1 : ¬ (160 : Int32) ≤ i := by
    rw [Int32.le_iff_toInt_le]
    omega
  have k2 : ¬ (i < 0 ∨ 160 ≤ i.toNatClampNeg) := by
    rintro (f | f)
    · exact i0 f
    · omega
  unfold DX3_toldAt DX3_elementAt DX3_hasElement DX8_intAt
  rw [c3 hr, if_pos x1, x2, if_neg i0, if_neg k0, if_neg k1, if_neg (show ¬ (1 : Int32) = 0 by decide), if_pos k2, ← c10 _ (by omega), show 41 + 2 * s + 1 = 42 + 2 * s by omega]
  exact ⟨_, rfl, rfl⟩
/-- how many of the cells from 24 - k on hold a -/
def am_ct (f : Nat → Int32) (a : Int32) : Nat → Nat
  | 0 => 0
  | k + 1 => (if f (23 - k) = a then 1 else 0) + am_ct f a k
theorem am_ct.le (f : Nat → Int32) (a : Int32) : ∀ k, am_ct f a k ≤ k
  | 0 => Nat.le_refl 0
  | k + 1 => by
    have := am_ct.le f a k
    unfold am_ct
    split <;> omega
theorem count_is {A : am_mI} {g : Nat} {a : Int32} : ∀ (k n : Nat) (c i : Int32), 0 ≤ i.toInt → i.toInt + k = 24 → k < n → 0 ≤ c.toInt → c.toInt ≤ i.toInt → ∃ r : Int32, LX8_count n A g a c i = some r ∧ r.toInt = c.toInt + am_ct (A g) a k := by
  intro k
  induction k with
  | zero =>
    intro n c i h0 h1 hn c0 c1
    obtain ⟨m, rfl⟩ : ∃ m, n = m + 1 := ⟨n - 1, by omega⟩
    refine ⟨c, ?_, ?_⟩
    · unfold LX8_count
      rw [if_pos]
      have v : (24 : Int32).toInt = 24 := rfl
      rw [Int32.le_iff_toInt_le]
      omega
    · show c.toInt = c.toInt + ((0 : Nat) : Int)
      omega
  | succ k ih =>
    intro n c i h0 h1 hn c0 c1
    obtain ⟨m, rfl⟩ : ∃ m, n = m + 1 := ⟨n - 1, by omega⟩
    have v : (24 : Int32).toInt = 24 := rfl
    have v0 : (0 : Int32).toInt = 0 := rfl
    have e : i.toNatClampNeg = i.toInt.toNat := rfl
    have s : (i + 1).toInt = i.toInt + 1 := i32_succ (n := 24) (by omega) (by omega) (by omega)
    have ei : 23 - k = i.toNatClampNeg := by omega
    unfold LX8_count am_ct
    rw [if_neg (by rw [Int32.le_iff_toInt_le]; omega), if_pos (by rw [Int32.lt_iff_toInt_lt]; omega), ei]
    by_cases q : ¬ A g i.toNatClampNeg = a
    · rw [if_pos q, if_neg q]
      obtain ⟨r, r1, r2⟩ := ih m c (i + 1) (by omega) (by omega) (by omega) c0 (by omega)
      exact ⟨r, r1, by omega⟩
    · rw [if_neg q, if_pos (Classical.not_not.mp q)]
      have s2 : (c + 1).toInt = c.toInt + 1 := i32_succ (n := 25) (by omega) (by omega) (by omega)
      obtain ⟨r, r1, r2⟩ := ih m (c + 1) (i + 1) (by omega) (by omega) (by omega) (by omega) (by omega)
      exact ⟨r, r1, by omega⟩
theorem LX8_age_s0 (n : Nat) (I : (Nat → Nat → Int32)) (J : (Nat → Nat → Int64)) (x1 : Int32) (x4 : Int32) (x5 : Int32) (x6 : Int32) (x7 : Int32) : LX8_age (n + 1) 0 I J x1 x4 x5 x6 x7 =
    if (240 : Int32) < x4 then
      some ((-1 : Int32), I, J)
    else
      LX8_age n 1 I J x1 x4 ((0 : Int32)) ((1 : Int32)) ((0 : Int32)) := rfl
theorem LX8_age_s1 (n : Nat) (I : (Nat → Nat → Int32)) (J : (Nat → Nat → Int64)) (x1 : Int32) (x4 : Int32) (x5 : Int32) (x6 : Int32) (x7 : Int32) : LX8_age (n + 1) 1 I J x1 x4 x5 x6 x7 =
    if (24 : Int32) ≤ x7 then
      if x6 = 0 then
        LX8_age n 0 I J x1 ((x4 + (1 : Int32))) 0 0 0
      else
        some (x4, I, J)
    else
      if x6 = 0 then
        if x6 = 0 then
          LX8_age n 0 I J x1 ((x4 + (1 : Int32))) 0 0 0
        else
          some (x4, I, J)
      else
        if ¬ (x7 < 0 ∨ 24 ≤ (x7).toNatClampNeg) then
          if ¬ (I 6 (x7).toNatClampNeg) = (-1 : Int32) then
            (DX8_freshAt I x7 x4).bind fun q8 =>
            (DX8_intAt J x1 x5).bind fun q9 =>
            if ¬ q8 = q9 then
              LX8_age n 1 I J x1 x4 ((x5 + (1 : Int32))) ((0 : Int32)) ((x7 + (1 : Int32)))
            else
              LX8_age n 1 I J x1 x4 ((x5 + (1 : Int32))) ((1 : Int32)) ((x7 + (1 : Int32)))
          else
            LX8_age n 1 I J x1 x4 x5 x6 ((x7 + (1 : Int32)))
        else none := rfl
theorem LX8_judge_s0 (n : Nat) (I : (Nat → Nat → Int32)) (J : (Nat → Nat → Int64)) (x1 : Int32) (x2 : Int32) (x4 : Int32) (x5 : Int32) : LX8_judge (n + 1) 0 I J x1 x2 x4 x5 =
    if (24 : Int32) ≤ x4 then
      LX8_judge n 1 I J x1 x2 ((-1 : Int32)) ((0 : Int32))
    else
      if ¬ (x4 < 0 ∨ 24 ≤ (x4).toNatClampNeg) then
        if ¬ (x4 < 0 ∨ 24 ≤ (x4).toNatClampNeg) then
          LX8_judge n 0 ((am_upI I 24 (x4).toNatClampNeg (I 6 (x4).toNatClampNeg))) J x1 x2 ((x4 + (1 : Int32))) 0
        else none
      else none := rfl
theorem LX8_judge_s1 (n : Nat) (I : (Nat → Nat → Int32)) (J : (Nat → Nat → Int64)) (x1 : Int32) (x2 : Int32) (x4 : Int32) (x5 : Int32) : LX8_judge (n + 1) 1 I J x1 x2 x4 x5 =
    if x2 ≤ x5 then
      LX8_judge n 2 I J 0 0 x4 ((0 : Int32))
    else
      if ¬ x4 = (-1 : Int32) then
        LX8_judge n 2 I J 0 0 x4 ((0 : Int32))
      else
        (DX8_intAt J x1 x5).bind fun q7 =>
        if q7 < 0 then
          LX8_judge n 1 I J x1 x2 x5 ((x5 + (1 : Int32)))
        else
          if ¬ (10 : Int32) = 0 then
            if (DX8_isCell ((q7 / (10 : Int32)))) = 0 then
              LX8_judge n 1 I J x1 x2 x5 ((x5 + (1 : Int32)))
            else
              if ¬ (10 : Int32) = 0 then
                if (DX8_isStuff I ((q7 - q7 / (10 : Int32) * (10 : Int32)))) = 0 then
                  LX8_judge n 1 I J x1 x2 x5 ((x5 + (1 : Int32)))
                else
                  if ¬ (10 : Int32) = 0 then
                    (DX8_mayLay I ((q7 / (10 : Int32)))).bind fun q8 =>
                    if ¬ q8 = 0 then
                      if ¬ (10 : Int32) = 0 then
                        if ¬ (10 : Int32) = 0 then
                          if ¬ ((q7 / (10 : Int32)) < 0 ∨ 24 ≤ ((q7 / (10 : Int32))).toNatClampNeg) then
                            LX8_judge n 1 ((am_upI I 6 ((q7 / (10 : Int32))).toNatClampNeg (q7 - q7 / (10 : Int32) * (10 : Int32)))) J x1 x2 x4 ((x5 + (1 : Int32)))
                          else none
                        else none
                      else none
                    else
                      LX8_judge n 1 I J x1 x2 x5 ((x5 + (1 : Int32)))
                  else none
              else none
          else none := rfl
theorem LX8_judge_s2 (n : Nat) (I : (Nat → Nat → Int32)) (J : (Nat → Nat → Int64)) (x1 : Int32) (x2 : Int32) (x4 : Int32) (x5 : Int32) : LX8_judge (n + 1) 2 I J x1 x2 x4 x5 =
    if (24 : Int32) ≤ x5 then
      some (x4, I, J)
    else
      if ¬ (x5 < 0 ∨ 24 ≤ (x5).toNatClampNeg) then
        if ¬ (x5 < 0 ∨ 24 ≤ (x5).toNatClampNeg) then
          LX8_judge n 2 ((am_upI I 6 (x5).toNatClampNeg (I 24 (x5).toNatClampNeg))) J 0 0 x4 ((x5 + (1 : Int32)))
        else none
      else none := rfl
theorem laid_is {t : Nat} {I : am_mI} {J : am_mJ} {A : am_mI} {B : am_mJ} (h : am_Iv t I J A B) : ∃ r : Int32, DX1_laidCount I 2 = some r ∧ DX8_laidMany A = some r ∧ r.toInt = 24 - (am_ct (A 6) (-1) 24 : Int) := by
  obtain ⟨w, w1, w2⟩ := countAs (g := 7) (g' := 6) h.bd.r4 (-1)
  obtain ⟨r, r1, r2⟩ := count_is (A := A) (g := 6) (a := -1) 24 am_FU 0 0 (by decide) (by decide) (by decide) (by decide) (by decide)
  have e : w = r := Option.some.inj (w2.symm.trans r1)
  have le := am_ct.le (A 6) (-1) 24
  have z0 : (0 : Int32).toInt = 0 := rfl
  unfold DX1_laidCount DX8_laidMany
  rw [show (2 : Nat) + 5 = 7 from rfl, w1, w2, Option.bind_some]
  refine ⟨_, rfl, rfl, ?_⟩
  have v : (24 : Int32).toInt = 24 := rfl
  rw [e, Int32.toInt_sub, v, r2, z0]
  rw [Int.bmod_eq_of_le (by omega) (by omega)]
  omega
theorem asTold {t : Nat} {I : am_mI} {J : am_mJ} {A : am_mI} {B : am_mJ} (h : am_Iv t I J A B) (ht : t ≤ 61440000) {a n x : Int32} {s : Nat} (hs : s < 8) (ea : a.toInt = (s : Int)) (hr : A 11 s = 1) (hn : n.toInt ≤ (A 13 s).toInt) (hx : 0 ≤ x.toInt ∧ x.toInt ≤ 240) :
    ∀ (k m m2 : Nat) (i c : Int32), 0 ≤ c.toInt → c.toInt + k = 24 → k < m → 0 ≤ i.toInt → i.toInt + k - am_ct (A 6) (-1) k = n.toInt → ∃ (b : Int32) (m3 : Nat), m2 ≤ m3 ∧ LX4_isAsTold m I J 2 (41 + 2 * s) x i c = some b ∧
      LX8_age (m2 + k + 2) 1 A B a x i 1 c = if b = 0 then LX8_age m3 0 A B a (x + 1) 0 0 0 else some (x, A, B) := by
  intro k
  induction k with
  | zero =>
    intro m m2 i c h0 h1 hm i0 i1
    obtain ⟨m, rfl⟩ : ∃ j, m = j + 1 := ⟨m - 1, by omega⟩
    have q : (24 : Int32) ≤ c := by
      have v : (24 : Int32).toInt = 24 := rfl
      rw [Int32.le_iff_toInt_le]
      omega
    unfold LX4_isAsTold
    rw [show m2 + 0 + 2 = (m2 + 1) + 1 from rfl, LX8_age_s1, if_pos q, if_pos q, if_neg (show ¬ (1 : Int32) = 0 by decide)]
    refine ⟨1, m2, Nat.le_refl m2, rfl, ?_⟩
    rw [if_neg (show ¬ (1 : Int32) = 0 by decide)]
  | succ k ih =>
    intro m m2 i c h0 h1 hm i0 i1
    obtain ⟨m, rfl⟩ : ∃ j, m = j + 1 := ⟨m - 1, by omega⟩
    have e : c.toNatClampNeg = c.toInt.toNat := rfl
    have v : (24 : Int32).toInt = 24 := rfl
    have q : ¬ (24 : Int32) ≤ c := by
      rw [Int32.le_iff_toInt_le]
      omega
    have x1 : (c + 1).toInt = c.toInt + 1 := i32_succ (n := 24) (by omega) (by omega) (by omega)
    have c1 := xcell (a := c) ⟨h0, by omega⟩
    have c2 := cell_in c1
    obtain ⟨-, p1, -⟩ := cellAt h c1
    have le := am_ct.le (A 6) (-1) k
    have z1 : ¬ (1 : Int32) = 0 := by decide
    unfold LX4_isAsTold
    rw [show m2 + (k + 1) + 2 = (m2 + k + 2) + 1 from rfl, LX8_age_s1, if_neg q, if_neg q, if_neg z1, if_pos c2.1, p1, Option.bind_some]
    unfold am_ct at i1
    rw [show 23 - k = c.toNatClampNeg by omega] at i1
    by_cases l : A 6 c.toNatClampNeg = -1
    · rw [if_pos l] at i1
      rw [if_neg (not_not_intro l), if_neg (not_not_intro l)]
      exact ih m m2 i (c + 1) (by omega) (by omega) (by omega) i0 (by omega)
    · rw [if_neg l] at i1
      rw [if_pos l, if_pos l]
      obtain ⟨f, f1, f2, -⟩ := freshCell h ht (am_Off.me A) rfl h.sided.2 (c := c) (n := x) ⟨h0, by omega⟩ hx
      obtain ⟨w, w1, w2⟩ := toldAs h (a := a) (i := i) hs ea hr i0 (by omega)
      have y1 : (i + 1).toInt = i.toInt + 1 := by
        have hz := (h.sh s hs).2.2.2.2.2.2.1
        exact i32_succ (n := 200) (by omega) (by omega) (by omega)
      rw [h.sided.1, f1, f2, w1, w2]
      simp only [Option.bind_some]
      by_cases z : f = w
      · rw [if_pos z, if_neg (not_not_intro z)]
        exact ih m m2 (i + 1) (c + 1) (by omega) (by omega) (by omega) (by omega) (by omega)
      · rw [if_neg z, if_pos z]
        refine ⟨0, m2 + k + 1, by omega, rfl, ?_⟩
        rw [show m2 + k + 2 = (m2 + k + 1) + 1 from rfl, LX8_age_s1, if_pos (show (0 : Int32) = 0 from rfl)]
        split <;> rfl
theorem age_sim {t : Nat} {I : am_mI} {J : am_mJ} {A : am_mI} {B : am_mJ} (h : am_Iv t I J A B) (ht : t ≤ 61440000) {a n : Int32} {s : Nat} (hs : s < 8) (ea : a.toInt = (s : Int)) (hr : A 11 s = 1) (hn : n.toInt ≤ (A 13 s).toInt) (hl : (24 : Int) - (am_ct (A 6) (-1) 24 : Int) = n.toInt) :
    ∀ (k m m2 : Nat) (x : Int32), 0 ≤ x.toInt → x.toInt + k = 241 → k < m → 30 * k < m2 → ∃ r : Int32, LX4_hourAsTold m I J 2 (41 + 2 * s) x = some r ∧ LX8_age m2 0 A B a x 0 0 0 = some (r, A, B) := by
  intro k
  induction k with
  | zero =>
    intro m m2 x h0 h1 hm hm2
    obtain ⟨m, rfl⟩ : ∃ j, m = j + 1 := ⟨m - 1, by omega⟩
    obtain ⟨m2, rfl⟩ : ∃ j, m2 = j + 1 := ⟨m2 - 1, by omega⟩
    have q : (240 : Int32) < x := by ((try simp only [Int32.lt_iff_toInt_lt, Int32.le_iff_toInt_le, Int32.reduceToInt, ← Int32.toNat_toInt, ← Int32.toInt_inj] at *) <;> omega)
    unfold LX4_hourAsTold
    rw [LX8_age_s0, if_pos q, if_pos q]
    exact ⟨_, rfl, rfl⟩
  | succ k ih =>
    intro m m2 x h0 h1 hm hm2
    obtain ⟨m, rfl⟩ : ∃ j, m = j + 1 := ⟨m - 1, by omega⟩
    obtain ⟨m2, rfl⟩ : ∃ j, m2 = j + 27 := ⟨m2 - 27, by omega⟩
    have q : ¬ (240 : Int32) < x := by
      have v : (240 : Int32).toInt = 240 := rfl
      rw [Int32.lt_iff_toInt_lt]
      omega
    have x1 : (x + 1).toInt = x.toInt + 1 := i32_succ (n := 241) (by omega) (by omega) (by omega)
    have z0 : (0 : Int32).toInt = 0 := rfl
    obtain ⟨b, m3, hm3, b1, b2⟩ := asTold h ht hs ea hr hn (x := x) (by omega) 24 am_FU m2 0 0 (by decide) (by decide) (by decide) (by decide) (by rw [z0]; omega)
    unfold LX4_hourAsTold DX4_isAsTold
    rw [show m2 + 27 = (m2 + 24 + 2) + 1 from rfl, LX8_age_s0, if_neg q, if_neg q, b1, b2, Option.bind_some]
    by_cases z : b = 0
    · rw [if_pos z, if_pos z]
      exact ih m m3 (x + 1) (by omega) (by omega) (by omega) (by omega)
    · rw [if_neg z, if_neg z]
      exact ⟨_, rfl, rfl⟩
theorem op_age {t : Nat} {I : am_mI} {J : am_mJ} {A : am_mI} {B : am_mJ} (h : am_Iv t I J A B) (ht : t ≤ 61440000) (a n : Int32) : am_Tw (t + 20000) (DX7_age I J a n) (DX8_age A B a n) := by
  unfold DX7_age DX8_age
  have f : am_FU = 1000000 := rfl
  rcases tellAs h a n with ⟨h1, h2⟩ | ⟨s, b, hs, e1, e2, h1, h2, h3, h4, h5⟩
  · rw [if_pos h1, h2, Option.bind_some, if_pos (by decide), if_neg (by decide)]
    exact .noTen1 h
  · rw [if_neg (by omega), h1, h2, h3, Option.bind_some]
    by_cases b0 : b = 0
    · obtain ⟨r, n0, nn⟩ := h5 b0
      obtain ⟨l, l1, l2, l3⟩ := laid_is h
      rw [if_pos b0, if_neg (not_not_intro b0), l1, l2, Option.bind_some, Option.bind_some]
      by_cases y : n = l
      · rw [if_pos y, if_pos y, if_pos b0]
        obtain ⟨w, w1, w2⟩ := age_sim h ht hs e2 r nn (by rw [y]; omega) 241 am_FU am_FU 0 (by decide) (by decide) (by omega) (by omega)
        unfold DX4_hourAsTold
        rw [w1, w2, Option.bind_some]
        exact .mk1 h
      · rw [if_neg y, if_neg y]
        exact .noTen6 h
    · rw [if_neg b0, if_pos b0, if_neg b0]
      rcases h4 with q | q | q | q | q
      · exact absurd q b0
      · rw [q]
        exact .noTen2 h
      · rw [q]
        exact .noTen3 h
      · rw [q]
        exact .noTen4 h
      · rw [q]
        exact .noTen5 h
