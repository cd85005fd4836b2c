/-! SENTENCES: laying and stripping -/
theorem i32_succ {x : Int32} {n : Int} (h0 : -2147483648 ≤ x.toInt) (h1 : x.toInt < n) (hn : n < 2147483647) : (x + 1).toInt = x.toInt + 1 := by
  have v1 : (1 : Int32).toInt = 1 := rfl
  rw [Int32.toInt_add, v1]
  exact Int.bmod_eq_of_le (by omega) (by omega)
/-- counting: the two loops are one -/
theorem count_same {I A : am_mI} {g g' : Nat} (e : I g = A g') (a : Int32) : ∀ (n : Nat) (c i : Int32), LX1_countOf n I g a c 24 i = LX8_count n A g' a c i := by
  intro n
  induction n with
  | zero => intro c i; rfl
  | succ n ih =>
    intro c i
    simp only [LX1_countOf, LX8_count, e, ih]
theorem count_ends {A : am_mI} {g : Nat} {a : Int32} : ∀ (k n : Nat) (c i : Int32), 0 ≤ i.toInt → i.toInt + k = 24 → k < n → ∃ r : Int32, LX8_count n A g a c i = some r := by
  intro k
  induction k with
  | zero =>
    intro n c i h0 h1 hn
    obtain ⟨m, rfl⟩ : ∃ m, n = m + 1 := ⟨n - 1, by omega⟩
    refine ⟨c, ?_⟩
    unfold LX8_count
    rw [if_pos]
    have v : (24 : Int32).toInt = 24 := rfl
    rw [Int32.le_iff_toInt_le]
    omega
  | succ k ih =>
    intro n c i h0 h1 hn
    obtain ⟨m, rfl⟩ : ∃ m, n = m + 1 := ⟨n - 1, by omega⟩
    have v : (24 : Int32).toInt = 24 := rfl
    have v0 : (0 : Int32).toInt = 0 := rfl
    have e : i.toNatClampNeg = i.toInt.toNat := rfl
    have s : (i + 1).toInt = i.toInt + 1 := i32_succ (n := 24) (by omega) (by omega) (by omega)
    unfold LX8_count
    rw [if_neg (by rw [Int32.le_iff_toInt_le]; omega), if_pos (by rw [Int32.lt_iff_toInt_lt]; omega)]
    by_cases q : ¬ A g i.toNatClampNeg = a
    · rw [if_pos q]
      exact ih m c (i + 1) (by omega) (by omega) (by omega)
    · rw [if_neg q]
      exact ih m (c + 1) (i + 1) (by omega) (by omega) (by omega)
theorem countAs {I A : am_mI} {g g' : Nat} (e : I g = A g') (a : Int32) : ∃ r : Int32, DX1_countOf I g a = some r ∧ DX8_count A g' a = some r := by
  obtain ⟨r, h⟩ := count_ends (A := A) (g := g') (a := a) 24 am_FU 0 0 (by decide) (by decide) (by decide)
  refine ⟨r, ?_, h⟩
  unfold DX1_countOf
  rw [count_same e]
  exact h
theorem putsAs {t : Nat} {I : am_mI} {J : am_mJ} {A : am_mI} {B : am_mJ} (h : am_Iv t I J A B) {a v : Int32} (c : ¬ DX7_isCell a = 0) (hv : -1 ≤ v.toInt ∧ v.toInt < (A 0 0).toInt) :
    ∃ (I1 A1 : am_mI), DX1_takeOver I J 2 a v = some (0, I1, J) ∧ DX8_puts A B a v = some (0, A1, B) ∧ am_Iv t I1 J A1 B ∧ am_Fx I I1 ∧ am_Fm A A1 ∧ A1 0 = A 0 := by
  have g := (cell_in c).1
  have z : 0 ≤ (0 : Int32).toInt ∧ (0 : Int32).toInt ≤ (t : Int) := by
    have v0 : (0 : Int32).toInt = 0 := rfl
    omega
  refine ⟨_, _, ?_, ?_, (((h.row4 (k := a.toNatClampNeg) hv (cell_lt c)).row6 (k := a.toNatClampNeg) z (cell_lt c)).row7 (k := a.toNatClampNeg) z (cell_lt c)).row8 (k := a.toNatClampNeg) z (cell_lt c), ((((am_Fx.me I).up (by decide)).up (by decide)).up (by decide)).up (by decide), ((((am_Fm.me A).up (by decide)).up (by decide)).up (by decide)).up (by decide), rfl⟩
  · unfold DX1_takeOver
    exact (if_neg c).trans ((if_pos g).trans ((if_pos g).trans ((if_pos g).trans (if_pos g))))
  · unfold DX8_puts
    exact (if_pos g).trans ((if_pos g).trans ((if_pos g).trans (if_pos g)))
theorem op_lay {t : Nat} {I : am_mI} {J : am_mJ} {A : am_mI} {B : am_mJ} (h : am_Iv t I J A B) (a v : Int32) : am_Tw (t + 20000) (DX7_lay I J a v) (DX8_lay A B a v) := by
  unfold DX7_lay DX8_lay
  rw [mcell, stuff_in (A := A) h.bd.n0 h.nn]
  by_cases c : DX7_isCell a = 0
  · rw [if_pos c, if_pos c]
    exact .no1 h
  · rw [if_neg c, if_neg c]
    by_cases s : ¬ DX8_isStuff A v = 0
    · rw [if_pos s, if_pos s]
      obtain ⟨r, h1, h2⟩ := mayAs h c
      rw [h1, h2]
      simp only [Option.bind_some]
      by_cases m : ¬ r = 0
      · rw [if_pos m, if_pos m]
        have hs := stuff_rg s
        obtain ⟨I1, A1, p1, p2, p3, -⟩ := putsAs h c (v := v) (by omega)
        obtain ⟨w, w1, w2⟩ := countAs (g := 7) (g' := 6) p3.bd.r4 (-1)
        unfold DX1_layOn DX1_laidCount DX8_laidMany
        rw [p1, p2]
        simp only [Option.bind_some]
        rw [show (2 : Nat) + 5 = 7 from rfl, w1, w2]
        exact .mk1 p3
      · rw [if_neg m, if_neg m]
        exact .no6 h
    · rw [if_neg s, if_neg s]
      exact .no1 h
theorem op_strip {t : Nat} {I : am_mI} {J : am_mJ} {A : am_mI} {B : am_mJ} (h : am_Iv t I J A B) (a : Int32) : am_Tw (t + 20000) (DX7_strip I J a) (DX8_strip A B a) := by
  unfold DX7_strip DX8_strip
  rw [mcell]
  by_cases c : ¬ DX7_isCell a = 0
  · have g := (cell_in c).1
    obtain ⟨-, h1, -⟩ := cellAt h c
    rw [if_pos c, if_pos c, if_pos g, h1]
    simp only [Option.bind_some]
    by_cases l : ¬ A 6 a.toNatClampNeg = -1
    · rw [if_pos l, if_pos l, if_pos g]
      have hn := h.nn
      have v0 : (-1 : Int32).toInt = -1 := rfl
      obtain ⟨I1, A1, p1, p2, p3, -⟩ := putsAs h c (v := -1) (by omega)
      unfold DX1_makeBare
      rw [p1, p2]
      exact .mk1 p3
    · rw [if_neg l, if_neg l]
      exact .no6 h
  · rw [if_neg c, if_neg c]
    exact .no1 h
