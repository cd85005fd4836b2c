/-! SENTENCES: how fresh, how it looks -/
theorem i32_div {x p : Int32} (hx : 0 ≤ x.toInt) (hp : 1 ≤ p.toInt) : 0 ≤ (x / p).toInt ∧ (x / p).toInt ≤ x.toInt := by
  have e : (x / p).toInt = x.toInt / p.toInt := by
    rw [Int32.toInt_div, Int.tdiv_eq_ediv_of_nonneg hx]
    have a := Int.ediv_nonneg hx (by omega : 0 ≤ p.toInt)
    have b := Int.ediv_le_self p.toInt hx
    have c := Int32.toInt_lt x
    exact Int.bmod_eq_of_le (by omega) (by omega)
  rw [e]
  exact ⟨Int.ediv_nonneg hx (by omega), Int.ediv_le_self _ hx⟩
/-- how fresh: both alike -/
theorem freshAs {A : am_mI} {s sun shade w : Int32} (g : ¬ (s < 0 ∨ 8 ≤ s.toNatClampNeg)) (hk : 0 ≤ (A 2 s.toNatClampNeg).toInt ∧ (A 2 s.toNatClampNeg).toInt ≤ 6) (ha : 0 ≤ (A 4 s.toNatClampNeg).toInt ∧ (A 4 s.toNatClampNeg).toInt ≤ 9)
    (h1 : 0 ≤ sun.toInt ∧ sun.toInt ≤ 62000000) (h2 : 0 ≤ shade.toInt ∧ shade.toInt ≤ 62000000) (h3 : 0 ≤ w.toInt ∧ w.toInt ≤ 62000000) :
    ∃ r : Int32, DX2_freshness (A 2 s.toNatClampNeg) (A 4 s.toNatClampNeg) sun shade w = some r ∧ DX8_freshOf A s sun shade w = some r ∧ 0 ≤ r.toInt ∧ r.toInt ≤ 9 := by
  unfold DX8_freshOf DX8_brownOf
  obtain ⟨k, ek⟩ : ∃ k, k = A 2 s.toNatClampNeg := ⟨_, rfl⟩
  obtain ⟨a, ea⟩ : ∃ a, a = A 4 s.toNatClampNeg := ⟨_, rfl⟩
  rw [← ek] at hk
  rw [← ea] at ha
  simp only [if_pos g, ← ek, ← ea]
  clear ek ea
  have p1 : (a + 1).toInt = a.toInt + 1 := by ((try simp only [Int32.lt_iff_toInt_lt, Int32.le_iff_toInt_le, Int32.reduceToInt, ← Int32.toNat_toInt, ← Int32.toInt_inj, Int32.toInt_add, Int32.toInt_sub, Int32.toInt_mul, Int.bmod_def] at *) <;> omega)
  have p2 : ¬ a + 1 < (1 : Int32) := by ((try simp only [Int32.lt_iff_toInt_lt, Int32.le_iff_toInt_le, Int32.reduceToInt, ← Int32.toNat_toInt, ← Int32.toInt_inj, Int32.toInt_add, Int32.toInt_sub, Int32.toInt_mul, Int.bmod_def] at *) <;> omega)
  have p3 : ¬ a + 1 = (0 : Int32) := by ((try simp only [Int32.lt_iff_toInt_lt, Int32.le_iff_toInt_le, Int32.reduceToInt, ← Int32.toNat_toInt, ← Int32.toInt_inj, Int32.toInt_add, Int32.toInt_sub, Int32.toInt_mul, Int.bmod_def] at *) <;> omega)
  unfold DX2_freshness
  simp only [if_neg p2, if_pos p3]
  have key : ∀ b : Int32, -400000000 ≤ b.toInt → b.toInt ≤ 400000000 → ∃ d : Int32, (if 0 < b then b else 0) / (a + 1) = d ∧ (if 0 ≤ b then (some b : Option Int32) else some 0) = some (if 0 < b then b else 0) ∧ 0 ≤ d.toInt ∧ d.toInt ≤ 400000000 := by
    intro b h4 h5
    by_cases c : 0 < b
    · have c2 : (0 : Int32) ≤ b := by ((try simp only [Int32.lt_iff_toInt_lt, Int32.le_iff_toInt_le, Int32.reduceToInt, ← Int32.toNat_toInt, ← Int32.toInt_inj] at *) <;> omega)
      rw [if_pos c, if_pos c2]
      have := i32_div (x := b) (p := a + 1) (by ((try simp only [Int32.lt_iff_toInt_lt, Int32.le_iff_toInt_le, Int32.reduceToInt, ← Int32.toNat_toInt, ← Int32.toInt_inj] at *) <;> omega)) (by ((try simp only [Int32.lt_iff_toInt_lt, Int32.le_iff_toInt_le, Int32.reduceToInt, ← Int32.toNat_toInt, ← Int32.toInt_inj] at *) <;> omega))
      exact ⟨_, rfl, rfl, by omega, by omega⟩
    · rw [if_neg c]
      have := i32_div (x := 0) (p := a + 1) (by decide) (by ((try simp only [Int32.lt_iff_toInt_lt, Int32.le_iff_toInt_le, Int32.reduceToInt, ← Int32.toNat_toInt, ← Int32.toInt_inj] at *) <;> omega))
      refine ⟨_, rfl, ?_, by omega, by have v0 : (0 : Int32).toInt = 0 := rfl; omega⟩
      by_cases c2 : (0 : Int32) ≤ b
      · rw [if_pos c2]
        exact congrArg some (by ((try simp only [Int32.lt_iff_toInt_lt, Int32.le_iff_toInt_le, Int32.reduceToInt, ← Int32.toNat_toInt, ← Int32.toInt_inj] at *) <;> omega))
      · rw [if_neg c2]
  have tail1 : ∀ d : Int32, 0 ≤ d.toInt → d.toInt ≤ 400000000 → ∃ r : Int32, (some (if (0 : Int32) < (9 : Int32) - d then (9 : Int32) - d else 0) : Option Int32) = some r ∧ (if (0 : Int32) ≤ (9 : Int32) - d then if (0 : Int32) ≤ (9 : Int32) - d then (some ((9 : Int32) - d) : Option Int32) else some 0 else some 0) = some r ∧ 0 ≤ r.toInt ∧ r.toInt ≤ 9 := by
    intro d h4 h5
    by_cases c : (0 : Int32) < (9 : Int32) - d
    · have c2 : (0 : Int32) ≤ (9 : Int32) - d := by ((try simp only [Int32.lt_iff_toInt_lt, Int32.le_iff_toInt_le, Int32.reduceToInt, ← Int32.toNat_toInt, ← Int32.toInt_inj] at *) <;> omega)
      rw [if_pos c, if_pos c2, if_pos c2]
      exact ⟨_, rfl, rfl, by ((try simp only [Int32.lt_iff_toInt_lt, Int32.le_iff_toInt_le, Int32.reduceToInt, ← Int32.toNat_toInt, ← Int32.toInt_inj, Int32.toInt_add, Int32.toInt_sub, Int32.toInt_mul, Int.bmod_def] at *) <;> omega), by ((try simp only [Int32.lt_iff_toInt_lt, Int32.le_iff_toInt_le, Int32.reduceToInt, ← Int32.toNat_toInt, ← Int32.toInt_inj, Int32.toInt_add, Int32.toInt_sub, Int32.toInt_mul, Int.bmod_def] at *) <;> omega)⟩
    · rw [if_neg c]
      by_cases c2 : (0 : Int32) ≤ (9 : Int32) - d
      · rw [if_pos c2, if_pos c2]
        exact ⟨_, rfl, congrArg some (by ((try simp only [Int32.lt_iff_toInt_lt, Int32.le_iff_toInt_le, Int32.reduceToInt, ← Int32.toNat_toInt, ← Int32.toInt_inj] at *) <;> omega)), by decide, by decide⟩
      · rw [if_neg c2]
        exact ⟨_, rfl, rfl, by decide, by decide⟩
  have tail2 : ∀ d : Int32, 0 ≤ d.toInt → d.toInt ≤ 400000000 → ∃ r : Int32, (some (if (0 : Int32) < (9 : Int32) - d - w then (9 : Int32) - d - w else 0) : Option Int32) = some r ∧ (if (0 : Int32) ≤ (9 : Int32) - d then if (0 : Int32) ≤ (9 : Int32) - d - w then (some ((9 : Int32) - d - w) : Option Int32) else some 0 else if (0 : Int32) ≤ (0 : Int32) - w then some ((0 : Int32) - w) else some 0) = some r ∧ 0 ≤ r.toInt ∧ r.toInt ≤ 9 := by
    intro d h4 h5
    have e9 : ((9 : Int32) - d).toInt = 9 - d.toInt := by ((try simp only [Int32.lt_iff_toInt_lt, Int32.le_iff_toInt_le, Int32.reduceToInt, ← Int32.toNat_toInt, ← Int32.toInt_inj, Int32.toInt_add, Int32.toInt_sub, Int32.toInt_mul, Int.bmod_def] at *) <;> omega)
    have e10 : ((9 : Int32) - d - w).toInt = 9 - d.toInt - w.toInt := by
      rw [Int32.toInt_sub, e9]
      exact Int.bmod_eq_of_le (by omega) (by omega)
    have e11 : ((0 : Int32) - w).toInt = - w.toInt := by ((try simp only [Int32.lt_iff_toInt_lt, Int32.le_iff_toInt_le, Int32.reduceToInt, ← Int32.toNat_toInt, ← Int32.toInt_inj, Int32.toInt_add, Int32.toInt_sub, Int32.toInt_mul, Int.bmod_def] at *) <;> omega)
    by_cases c : (0 : Int32) < (9 : Int32) - d - w
    · have c2 : (0 : Int32) ≤ (9 : Int32) - d - w := by ((try simp only [Int32.lt_iff_toInt_lt, Int32.le_iff_toInt_le, Int32.reduceToInt, ← Int32.toNat_toInt, ← Int32.toInt_inj] at *) <;> omega)
      have c3 : (0 : Int32) ≤ (9 : Int32) - d := by ((try simp only [Int32.lt_iff_toInt_lt, Int32.le_iff_toInt_le, Int32.reduceToInt, ← Int32.toNat_toInt, ← Int32.toInt_inj] at *) <;> omega)
      rw [if_pos c, if_pos c2, if_pos c3]
      exact ⟨_, rfl, rfl, by ((try simp only [Int32.lt_iff_toInt_lt, Int32.le_iff_toInt_le, Int32.reduceToInt, ← Int32.toNat_toInt, ← Int32.toInt_inj] at *) <;> omega), by ((try simp only [Int32.lt_iff_toInt_lt, Int32.le_iff_toInt_le, Int32.reduceToInt, ← Int32.toNat_toInt, ← Int32.toInt_inj] at *) <;> omega)⟩
    · rw [if_neg c]
      by_cases c3 : (0 : Int32) ≤ (9 : Int32) - d
      · rw [if_pos c3]
        by_cases c2 : (0 : Int32) ≤ (9 : Int32) - d - w
        · rw [if_pos c2]
          exact ⟨_, rfl, congrArg some (by ((try simp only [Int32.lt_iff_toInt_lt, Int32.le_iff_toInt_le, Int32.reduceToInt, ← Int32.toNat_toInt, ← Int32.toInt_inj] at *) <;> omega)), by decide, by decide⟩
        · rw [if_neg c2]
          exact ⟨_, rfl, rfl, by decide, by decide⟩
      · rw [if_neg c3]
        by_cases c2 : (0 : Int32) ≤ (0 : Int32) - w
        · rw [if_pos c2]
          exact ⟨_, rfl, congrArg some (by ((try simp only [Int32.lt_iff_toInt_lt, Int32.le_iff_toInt_le, Int32.reduceToInt, ← Int32.toNat_toInt, ← Int32.toInt_inj] at *) <;> omega)), by decide, by decide⟩
        · rw [if_neg c2]
          exact ⟨_, rfl, rfl, by decide, by decide⟩
  have e : k = 0 ∨ k = 1 ∨ k = 2 ∨ k = 3 ∨ k = 4 ∨ k = 5 ∨ k = 6 := by ((try simp only [Int32.lt_iff_toInt_lt, Int32.le_iff_toInt_le, Int32.reduceToInt, ← Int32.toNat_toInt, ← Int32.toInt_inj] at *) <;> omega)
  have s1 : (sun + shade).toInt = sun.toInt + shade.toInt := by ((try simp only [Int32.lt_iff_toInt_lt, Int32.le_iff_toInt_le, Int32.reduceToInt, ← Int32.toNat_toInt, ← Int32.toInt_inj, Int32.toInt_add, Int32.toInt_sub, Int32.toInt_mul, Int.bmod_def] at *) <;> omega)
  have s2 : (sun + shade + sun).toInt = sun.toInt + shade.toInt + sun.toInt := by
    rw [Int32.toInt_add, s1]
    exact Int.bmod_eq_of_le (by omega) (by omega)
  have s3 : (sun + shade - 12).toInt = sun.toInt + shade.toInt - 12 := by
    rw [Int32.toInt_sub, s1]
    exact Int.bmod_eq_of_le (by have : (12 : Int32).toInt = 12 := rfl; omega) (by have : (12 : Int32).toInt = 12 := rfl; omega)
  have s5 : ((6 : Int32) * w).toInt = 6 * w.toInt := by ((try simp only [Int32.lt_iff_toInt_lt, Int32.le_iff_toInt_le, Int32.reduceToInt, ← Int32.toNat_toInt, ← Int32.toInt_inj, Int32.toInt_add, Int32.toInt_sub, Int32.toInt_mul, Int.bmod_def] at *) <;> omega)
  have s4 : (sun + shade - 6 * w).toInt = sun.toInt + shade.toInt - 6 * w.toInt := by
    rw [Int32.toInt_sub, s1, s5]
    exact Int.bmod_eq_of_le (by omega) (by omega)
  rcases e with rfl | rfl | rfl | rfl | rfl | rfl | rfl
  · obtain ⟨d, e1, e2, d0, d1⟩ := key (sun + shade) (by omega) (by omega)
    obtain ⟨r, r1, r2, r3, r4⟩ := tail1 d d0 d1
    refine ⟨r, ?_, ?_, r3, r4⟩
    · rw [← r1, ← e1]
      rfl
    · rw [← r2]
      show (if 0 ≤ sun + shade then (some (sun + shade) : Option Int32) else some 0).bind _ = _
      rw [e2, ← e1]
      rfl
  · obtain ⟨d, e1, e2, d0, d1⟩ := key (sun + shade - 12) (by omega) (by omega)
    obtain ⟨r, r1, r2, r3, r4⟩ := tail1 d d0 d1
    refine ⟨r, ?_, ?_, r3, r4⟩
    · rw [← r1, ← e1]
      rfl
    · rw [← r2]
      show (if 0 ≤ sun + shade - 12 then (some (sun + shade - 12) : Option Int32) else some 0).bind _ = _
      rw [e2, ← e1]
      rfl
  · obtain ⟨d, e1, e2, d0, d1⟩ := key (sun + shade - 6 * w) (by omega) (by omega)
    obtain ⟨r, r1, r2, r3, r4⟩ := tail1 d d0 d1
    refine ⟨r, ?_, ?_, r3, r4⟩
    · rw [← r1, ← e1]
      rfl
    · rw [← r2]
      show (if 0 ≤ sun + shade - 6 * w then (some (sun + shade - 6 * w) : Option Int32) else some 0).bind _ = _
      rw [e2, ← e1]
      rfl
  · obtain ⟨d, e1, e2, d0, d1⟩ := key 0 (by decide) (by decide)
    obtain ⟨r, r1, r2, r3, r4⟩ := tail1 d d0 d1
    refine ⟨r, ?_, ?_, r3, r4⟩
    · rw [← r1, ← e1]
      rfl
    · rw [← r2]
      have e3 : (0 : Int32) / (a + 1) = d := e1
      rw [← e3]
      rfl
  · obtain ⟨d, e1, e2, d0, d1⟩ := key (sun + shade + sun) (by omega) (by omega)
    obtain ⟨r, r1, r2, r3, r4⟩ := tail1 d d0 d1
    refine ⟨r, ?_, ?_, r3, r4⟩
    · rw [← r1, ← e1]
      rfl
    · rw [← r2]
      show (if 0 ≤ sun + shade + sun then (some (sun + shade + sun) : Option Int32) else some 0).bind _ = _
      rw [e2, ← e1]
      rfl
  · obtain ⟨d, e1, e2, d0, d1⟩ := key (sun + shade + sun) (by omega) (by omega)
    obtain ⟨r, r1, r2, r3, r4⟩ := tail2 d d0 d1
    refine ⟨r, ?_, ?_, r3, r4⟩
    · rw [← r1, ← e1]
      rfl
    · rw [← r2]
      show (if 0 ≤ sun + shade + sun then (some (sun + shade + sun) : Option Int32) else some 0).bind _ = _
      rw [e2, ← e1]
      rfl
  · rw [if_neg (show ¬ ¬ (6 : Int32) = 6 by decide), if_neg (show ¬ ¬ (6 : Int32) = 6 by decide)]
    by_cases c : sun + shade ≤ (48 : Int32)
    · rw [if_pos c, if_pos c]
      obtain ⟨d, e1, e2, d0, d1⟩ := key (sun + shade - 6 * w) (by omega) (by omega)
      obtain ⟨r, r1, r2, r3, r4⟩ := tail1 d d0 d1
      refine ⟨r, ?_, ?_, r3, r4⟩
      · rw [← r1, ← e1]
        rfl
      · rw [← r2]
        show (if 0 ≤ sun + shade - 6 * w then (some (sun + shade - 6 * w) : Option Int32) else some 0).bind _ = _
        rw [e2, ← e1]
        rfl
    · rw [if_neg c, if_neg c]
      exact ⟨_, rfl, rfl, by decide, by decide⟩
theorem num_of {a : Int32} {n : Nat} (h0 : 0 ≤ a.toInt) (h1 : a.toInt < n) : ∃ k : Fin n, a = Int32.ofInt (k.1 : Int) := by
  refine ⟨⟨a.toInt.toNat, by omega⟩, ?_⟩
  show a = Int32.ofInt ((a.toInt.toNat : Nat) : Int)
  rw [Int.toNat_of_nonneg h0, Int32.ofInt_toInt]
theorem sun_tab : ∀ (k : Fin 24) (s : Fin 3), DX1_isInSun (Int32.ofInt (k.1 : Int)) (Int32.ofInt (s.1 : Int)) = DX8_inSun (fun _ _ => Int32.ofInt (s.1 : Int)) (Int32.ofInt (k.1 : Int)) ∧ (DX1_isInSun (Int32.ofInt (k.1 : Int)) (Int32.ofInt (s.1 : Int)) = some 0 ∨ DX1_isInSun (Int32.ofInt (k.1 : Int)) (Int32.ofInt (s.1 : Int)) = some 1) := by decide +kernel
theorem sunAs {A : am_mI} {c v : Int32} (hc : 0 ≤ c.toInt ∧ c.toInt < 24) (hv : 0 ≤ v.toInt ∧ v.toInt ≤ 2) (ev : A 0 1 = v) : ∃ q : Int32, DX1_isInSun c v = some q ∧ DX8_inSun A c = some q ∧ (q = 0 ∨ q = 1) := by
  obtain ⟨k, rfl⟩ := num_of (n := 24) hc.1 hc.2
  obtain ⟨s, es⟩ := num_of (n := 3) hv.1 (by omega : v.toInt < (3 : Nat))
  have e : DX8_inSun A (Int32.ofInt (k.1 : Int)) = DX8_inSun (fun _ _ => v) (Int32.ofInt (k.1 : Int)) := by
    unfold DX8_inSun
    rw [ev]
  rw [e, es]
  obtain ⟨h1, h2⟩ := sun_tab k s
  rw [← h1]
  rcases h2 with h2 | h2
  · exact ⟨0, h2, h2, Or.inl rfl⟩
  · exact ⟨1, h2, h2, Or.inr rfl⟩
theorem mstuff {A : am_mI} {a : Int32} (h0 : 0 ≤ a.toInt) (h1 : a.toInt < (A 0 0).toInt) : ¬ DX8_isStuff A a = 0 := by
  unfold DX8_isStuff
  rw [if_neg (by ((try simp only [Int32.lt_iff_toInt_lt, Int32.le_iff_toInt_le, Int32.reduceToInt, ← Int32.toNat_toInt, ← Int32.toInt_inj] at *) <;> omega)), if_neg (by ((try simp only [Int32.lt_iff_toInt_lt, Int32.le_iff_toInt_le, Int32.reduceToInt, ← Int32.toNat_toInt, ← Int32.toInt_inj] at *) <;> omega))]
  decide
theorem xcell {a : Int32} (h : 0 ≤ a.toInt ∧ a.toInt < 24) : ¬ DX7_isCell a = 0 := by
  unfold DX7_isCell
  rw [if_neg (by ((try simp only [Int32.lt_iff_toInt_lt, Int32.le_iff_toInt_le, Int32.reduceToInt, ← Int32.toNat_toInt, ← Int32.toInt_inj] at *) <;> omega)), if_neg (by ((try simp only [Int32.lt_iff_toInt_lt, Int32.le_iff_toInt_le, Int32.reduceToInt, ← Int32.toNat_toInt, ← Int32.toInt_inj] at *) <;> omega))]
  decide
/-- a laid cell's stuff -/
theorem am_Iv.stuffed {t : Nat} {I : am_mI} {J : am_mJ} {A : am_mI} {B : am_mJ} (h : am_Iv t I J A B) {i : Nat} (hi : i < 24) (hl : ¬ A 6 i = -1) : ¬ DX8_isStuff A (A 6 i) = 0 := by
  have g : -1 ≤ (A 6 i).toInt ∧ (A 6 i).toInt < (A 0 0).toInt := (h.rg.2.2.2.2.2.2.1 i hi).2.1
  exact mstuff (by ((try simp only [Int32.lt_iff_toInt_lt, Int32.le_iff_toInt_le, Int32.reduceToInt, ← Int32.toNat_toInt, ← Int32.toInt_inj] at *) <;> omega)) g.2
theorem am_Iv.kinds {t : Nat} {I : am_mI} {J : am_mJ} {A : am_mI} {B : am_mJ} (h : am_Iv t I J A B) {a : Int32} (c : ¬ DX8_isStuff A a = 0) : (0 ≤ (A 2 a.toNatClampNeg).toInt ∧ (A 2 a.toNatClampNeg).toInt ≤ 6) ∧ (0 ≤ (A 3 a.toNatClampNeg).toInt ∧ (A 3 a.toNatClampNeg).toInt ≤ 7) ∧ (0 ≤ (A 4 a.toNatClampNeg).toInt ∧ (A 4 a.toNatClampNeg).toInt ≤ 9) := by
  have hr := stuff_rg c
  have hn := h.nn
  exact h.rg.2.2.2.2.2.1 _ (by ((try simp only [Int32.lt_iff_toInt_lt, Int32.le_iff_toInt_le, Int32.reduceToInt, ← Int32.toNat_toInt, ← Int32.toInt_inj] at *) <;> omega))
/-- m's memory but for its numbers -/
def am_Off (A A' : am_mI) : Prop := ∀ k, k ≠ 0 → A' k = A k
theorem freshOf_off {A A' : am_mI} (e : am_Off A A') (a x y z : Int32) : DX8_freshOf A' a x y z = DX8_freshOf A a x y z := by
  unfold DX8_freshOf DX8_brownOf
  rw [e 2 (by decide), e 4 (by decide)]
theorem stuffFresh {t : Nat} {I : am_mI} {J : am_mJ} {A : am_mI} {B : am_mJ} (h : am_Iv t I J A B) {a x y z : Int32} (c : ¬ DX8_isStuff A a = 0)
    (h1 : 0 ≤ x.toInt ∧ x.toInt ≤ 62000000) (h2 : 0 ≤ y.toInt ∧ y.toInt ≤ 62000000) (h3 : 0 ≤ z.toInt ∧ z.toInt ≤ 62000000) :
    ∃ r : Int32, DX2_freshness (A 2 a.toNatClampNeg) (A 4 a.toNatClampNeg) x y z = some r ∧ DX8_freshOf A a x y z = some r ∧ 0 ≤ r.toInt ∧ r.toInt ≤ 9 :=
  freshAs (stuffAt h c).1 (h.kinds c).1 (h.kinds c).2.2 h1 h2 h3
theorem freshCell {t : Nat} {I : am_mI} {J : am_mJ} {A : am_mI} {B : am_mJ} (h : am_Iv t I J A B) (ht : t ≤ 61440000) {A' : am_mI} (e : am_Off A A') {v : Int32} (ev : A' 0 1 = v) (hv : 0 ≤ v.toInt ∧ v.toInt ≤ 2) {c n : Int32} (hc : 0 ≤ c.toInt ∧ c.toInt < 24) (hn : 0 ≤ n.toInt ∧ n.toInt ≤ 240) :
    ∃ r : Int32, DX4_freshBehind I 2 c v n = some r ∧ DX8_freshAt A' c n = some r ∧ 0 ≤ r.toInt ∧ r.toInt ≤ 9 := by
  have c1 := xcell hc
  have c2 := cell_in c1
  obtain ⟨-, h1, -, h3, h4, h5⟩ := cellAt h c1
  have ec : c.toNatClampNeg < 24 := by ((try simp only [Int32.lt_iff_toInt_lt, Int32.le_iff_toInt_le, Int32.reduceToInt, ← Int32.toNat_toInt, ← Int32.toInt_inj] at *) <;> omega)
  unfold DX4_freshBehind DX8_freshAt
  rw [h1, h3, h4, h5, e 6 (by decide), e 8 (by decide), e 9 (by decide), e 10 (by decide)]
  simp only [Option.bind_some, if_pos c2.1, freshOf_off e]
  by_cases l : ¬ A 6 c.toNatClampNeg = -1
  · rw [if_pos l, if_pos l]
    have st := h.stuffed ec l
    obtain ⟨-, k1, -, k2⟩ := stuffAt h st
    obtain ⟨q, q1, q2, q3⟩ := sunAs (A := A') hc hv ev
    rw [q1, q2, k1, k2]
    simp only [Option.bind_some]
    obtain ⟨s1, s2, s3⟩ := h.rg.2.2.2.2.2.2.2 c.toNatClampNeg ec
    change (0 ≤ (A 8 c.toNatClampNeg).toInt ∧ (A 8 c.toNatClampNeg).toInt ≤ t) at s1
    change (0 ≤ (A 9 c.toNatClampNeg).toInt ∧ (A 9 c.toNatClampNeg).toInt ≤ t) at s2
    change (0 ≤ (A 10 c.toNatClampNeg).toInt ∧ (A 10 c.toNatClampNeg).toInt ≤ t) at s3
    have a8 : (A 8 c.toNatClampNeg + n).toInt = (A 8 c.toNatClampNeg).toInt + n.toInt := by
      rw [Int32.toInt_add]
      exact Int.bmod_eq_of_le (by omega) (by omega)
    have a9 : (A 9 c.toNatClampNeg + n).toInt = (A 9 c.toNatClampNeg).toInt + n.toInt := by
      rw [Int32.toInt_add]
      exact Int.bmod_eq_of_le (by omega) (by omega)
    rcases q3 with rfl | rfl
    · obtain ⟨r, r1, r2, r3, r4⟩ := stuffFresh h (x := A 8 c.toNatClampNeg) (y := A 9 c.toNatClampNeg + n) (z := A 10 c.toNatClampNeg) st (by omega) (by omega) (by omega)
      rw [if_pos rfl, if_pos rfl, if_pos rfl, Int32.add_zero, r1, r2]
      exact ⟨r, rfl, rfl, r3, r4⟩
    · obtain ⟨r, r1, r2, r3, r4⟩ := stuffFresh h (x := A 8 c.toNatClampNeg + n) (y := A 9 c.toNatClampNeg) (z := A 10 c.toNatClampNeg) st (by omega) (by omega) (by omega)
      have ne : ¬ (1 : Int32) = 0 := by decide
      rw [if_neg ne, if_neg ne, if_neg ne, Int32.add_zero, r1, r2]
      exact ⟨r, rfl, rfl, r3, r4⟩
  · rw [if_neg l, if_neg l]
    exact ⟨_, rfl, rfl, by decide, by decide⟩
theorem beautyCell {t : Nat} {I : am_mI} {J : am_mJ} {A : am_mI} {B : am_mJ} (h : am_Iv t I J A B) (ht : t ≤ 61440000) {A' : am_mI} (e : am_Off A A') {v : Int32} (ev : A' 0 1 = v) (hv : 0 ≤ v.toInt ∧ v.toInt ≤ 2) {c n : Int32} (hc : 0 ≤ c.toInt ∧ c.toInt < 24) (hn : 0 ≤ n.toInt ∧ n.toInt ≤ 240) :
    ∃ q r : Int32, DX4_hasItsColour I 2 c = some q ∧ DX4_freshBehind I 2 c v n = some r ∧ DX8_beautyAt A' c n = some (if q = 0 then 0 else r) ∧ 0 ≤ r.toInt ∧ r.toInt ≤ 9 := by
  have c1 := xcell hc
  have c2 := cell_in c1
  obtain ⟨h0, h1, -⟩ := cellAt h c1
  have ec : c.toNatClampNeg < 24 := by ((try simp only [Int32.lt_iff_toInt_lt, Int32.le_iff_toInt_le, Int32.reduceToInt, ← Int32.toNat_toInt, ← Int32.toInt_inj] at *) <;> omega)
  obtain ⟨r, r1, r2, r3, r4⟩ := freshCell h ht e ev hv hc hn
  unfold DX4_hasItsColour DX8_beautyAt
  rw [h1, h0, e 6 (by decide), e 3 (by decide), e 5 (by decide), r1, r2]
  simp only [Option.bind_some, if_pos c2.1]
  by_cases l : A 6 c.toNatClampNeg = -1
  · rw [if_pos l, if_pos l]
    exact ⟨0, r, rfl, rfl, rfl, r3, r4⟩
  · rw [if_neg l, if_neg l]
    have st := h.stuffed ec l
    obtain ⟨k0, -, k1, -⟩ := stuffAt h st
    rw [k1]
    simp only [Option.bind_some, if_pos k0]
    by_cases m : ¬ A 3 (A 6 c.toNatClampNeg).toNatClampNeg = A 5 c.toNatClampNeg
    · rw [if_pos m, if_pos m]
      exact ⟨0, r, rfl, rfl, rfl, r3, r4⟩
    · rw [if_neg m, if_neg m]
      exact ⟨1, r, rfl, rfl, rfl, r3, r4⟩
theorem looks_sim {t : Nat} {I : am_mI} {J : am_mJ} {A : am_mI} {B : am_mJ} (h : am_Iv t I J A B) (ht : t ≤ 61440000) {A' : am_mI} (e : am_Off A A') {v : Int32} (ev : A' 0 1 = v) (hv : 0 ≤ v.toInt ∧ v.toInt ≤ 2) {n : Int32} (hn : 0 ≤ n.toInt ∧ n.toInt ≤ 240) :
    ∀ (k m : Nat) (s x : Int32), 0 ≤ x.toInt → x.toInt + k = 24 → k < m → 0 ≤ s.toInt → s.toInt ≤ 9 * x.toInt → ∃ r : Int32, LX4_looksBehind m I 2 v n s x = some r ∧ LX8_looksAt m A' n s x = some r ∧ 0 ≤ r.toInt ∧ r.toInt ≤ 216 := by
  intro k
  induction k with
  | zero =>
    intro m s x h0 h1 hm s0 s1
    obtain ⟨m, rfl⟩ : ∃ j, m = j + 1 := ⟨m - 1, by omega⟩
    unfold LX4_looksBehind LX8_looksAt
    have q : (24 : Int32) ≤ x := by ((try simp only [Int32.lt_iff_toInt_lt, Int32.le_iff_toInt_le, Int32.reduceToInt, ← Int32.toNat_toInt, ← Int32.toInt_inj] at *) <;> omega)
    rw [if_pos q, if_pos q]
    exact ⟨s, rfl, rfl, s0, by omega⟩
  | succ k ih =>
    intro m s x h0 h1 hm s0 s1
    obtain ⟨m, rfl⟩ : ∃ j, m = j + 1 := ⟨m - 1, by omega⟩
    unfold LX4_looksBehind LX8_looksAt
    have q : ¬ (24 : Int32) ≤ x := by ((try simp only [Int32.lt_iff_toInt_lt, Int32.le_iff_toInt_le, Int32.reduceToInt, ← Int32.toNat_toInt, ← Int32.toInt_inj] at *) <;> omega)
    have x1 : (x + 1).toInt = x.toInt + 1 := i32_succ (n := 24) (by omega) (by omega) (by omega)
    rw [if_neg q, if_neg q]
    obtain ⟨q, r, b1, b2, b3, b4, b5⟩ := beautyCell h ht e ev hv (c := x) (n := n) (by omega) hn
    rw [b1, b2, b3]
    simp only [Option.bind_some]
    by_cases z : q = 0
    · rw [if_pos z, if_pos z, Int32.add_zero]
      exact ih m s (x + 1) (by omega) (by omega) (by omega) s0 (by omega)
    · rw [if_neg z, if_neg z]
      have a : (s + r).toInt = s.toInt + r.toInt := by
        rw [Int32.toInt_add]
        exact Int.bmod_eq_of_le (by omega) (by omega)
      exact ih m (s + r) (x + 1) (by omega) (by omega) (by omega) (by omega) (by omega)
theorem looksAs {t : Nat} {I : am_mI} {J : am_mJ} {A : am_mI} {B : am_mJ} (h : am_Iv t I J A B) (ht : t ≤ 61440000) {A' : am_mI} (e : am_Off A A') {v : Int32} (ev : A' 0 1 = v) (hv : 0 ≤ v.toInt ∧ v.toInt ≤ 2) {n : Int32} (hn : 0 ≤ n.toInt ∧ n.toInt ≤ 240) :
    ∃ r : Int32, DX4_looksBehind I 2 v n = some r ∧ DX8_looksAt A' n = some r ∧ 0 ≤ r.toInt ∧ r.toInt ≤ 216 :=
  looks_sim h ht e ev hv hn 24 am_FU 0 0 (by decide) (by decide) (by decide) (by decide) (by decide)
theorem am_Off.me (A : am_mI) : am_Off A A := fun _ _ => rfl
theorem hour_in {n : Int32} (c : ¬ DX7_isHour n = 0) : 0 ≤ n.toInt ∧ n.toInt ≤ 240 := by
  unfold DX7_isHour at c
  by_cases c0 : n < 0
  · rw [if_pos c0] at c
    exact absurd rfl c
  · rw [if_neg c0] at c
    by_cases c1 : (240 : Int32) < n
    · rw [if_pos c1] at c
      exact absurd rfl c
    · clear c
      ((try simp only [Int32.lt_iff_toInt_lt, Int32.le_iff_toInt_le, Int32.reduceToInt, ← Int32.toNat_toInt, ← Int32.toInt_inj] at *) <;> omega)
theorem am_Iv.sided {t : Nat} {I : am_mI} {J : am_mJ} {A : am_mI} {B : am_mJ} (h : am_Iv t I J A B) : DX1_sunnySide I 2 = A 0 1 ∧ 0 ≤ (A 0 1).toInt ∧ (A 0 1).toInt ≤ 2 := ⟨h.bd.n1, h.rg.2.1⟩
theorem op_fresh {t : Nat} {I : am_mI} {J : am_mJ} {A : am_mI} {B : am_mJ} (h : am_Iv t I J A B) (ht : t ≤ 61440000) (a n : Int32) : am_Tw (t + 20000) (DX7_fresh I J a n) (DX8_fresh A B a n) := by
  unfold DX7_fresh DX8_fresh
  rw [op_isCell, op_isHour, h.sided.1]
  by_cases c : ¬ DX7_isCell a = 0
  · rw [if_pos c, if_pos c]
    by_cases hh : DX7_isHour n = 0
    · rw [if_pos hh, if_neg (not_not_intro hh)]
      exact .no6 h
    · obtain ⟨r, r1, r2, -⟩ := freshCell h ht (am_Off.me A) rfl h.sided.2 (cell_in c).2 (hour_in hh)
      rw [if_neg hh, if_pos hh, r1, r2]
      exact .mk1 h
  · rw [if_neg c, if_neg c]
    exact .no1 h
theorem op_beauty {t : Nat} {I : am_mI} {J : am_mJ} {A : am_mI} {B : am_mJ} (h : am_Iv t I J A B) (ht : t ≤ 61440000) (a n : Int32) : am_Tw (t + 20000) (DX7_beauty I J a n) (DX8_beauty A B a n) := by
  unfold DX7_beauty DX8_beauty
  rw [op_isCell, op_isHour, h.sided.1]
  by_cases c : ¬ DX7_isCell a = 0
  · rw [if_pos c, if_pos c]
    by_cases hh : DX7_isHour n = 0
    · rw [if_pos hh, if_neg (not_not_intro hh)]
      exact .no6 h
    · obtain ⟨q, r, r0, r1, r2, -⟩ := beautyCell h ht (am_Off.me A) rfl h.sided.2 (cell_in c).2 (hour_in hh)
      unfold DX4_beautyBehind
      rw [if_neg hh, if_pos hh, r0, r1, r2]
      simp only [Option.bind_some]
      by_cases z : q = 0
      · rw [if_pos z, if_pos z]
        exact .mk1 h
      · rw [if_neg z, if_neg z]
        exact .mk1 h
  · rw [if_neg c, if_neg c]
    exact .no1 h
theorem op_looks {t : Nat} {I : am_mI} {J : am_mJ} {A : am_mI} {B : am_mJ} (h : am_Iv t I J A B) (ht : t ≤ 61440000) (n : Int32) : am_Tw (t + 20000) (DX7_looks I J n) (DX8_looks A B n) := by
  unfold DX7_looks DX8_looks
  rw [op_isHour, h.sided.1]
  by_cases hh : DX7_isHour n = 0
  · rw [if_pos hh, if_neg (not_not_intro hh)]
    exact .no6 h
  · obtain ⟨r, r1, r2, -⟩ := looksAs h ht (am_Off.me A) rfl h.sided.2 (hour_in hh)
    rw [if_neg hh, if_pos hh, r1, r2]
    exact .mk1 h
