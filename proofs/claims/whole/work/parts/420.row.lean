/-! SENTENCES: rows -/
theorem row_sim {s : Nat} (hs : s < 8) {a : Int32} (ha : a.toInt = (s : Int)) : ∀ (k m m2 : Nat) (x : Int32) {t : Nat} {I : am_mI} {J : am_mJ} {A : am_mI} {B : am_mJ}, am_Iv t I J A B → 0 ≤ x.toInt → x.toInt + k = 160 → k < m → k < m2 →
    ∃ (J1 B1 : am_mJ), LJ7_fill_d0a16 m I J (42 + 2 * s) 0 x 160 = some (0, I, J1) ∧ LX8_row m2 A B a x = some (1, A, B1) ∧ am_Iv t I J1 A B1 := by
  intro k
  induction k with
  | zero =>
    intro m m2 x t I J A B h h0 h1 hm hm2
    obtain ⟨m, rfl⟩ : ∃ j, m = j + 1 := ⟨m - 1, by omega⟩
    obtain ⟨m2, rfl⟩ : ∃ j, m2 = j + 1 := ⟨m2 - 1, by omega⟩
    unfold LJ7_fill_d0a16 LX8_row
    have q : (160 : Int32) ≤ x := by ((try simp only [Int32.lt_iff_toInt_lt, Int32.le_iff_toInt_le, Int32.reduceToInt, ← Int32.toNat_toInt, ← Int32.toInt_inj] at *) <;> omega)
    rw [if_pos q, if_pos q]
    exact ⟨J, B, rfl, rfl, h⟩
  | succ k ih =>
    intro m m2 x t I J A B h h0 h1 hm hm2
    obtain ⟨m, rfl⟩ : ∃ j, m = j + 1 := ⟨m - 1, by omega⟩
    obtain ⟨m2, rfl⟩ : ∃ j, m2 = j + 1 := ⟨m2 - 1, by omega⟩
    unfold LJ7_fill_d0a16 LX8_row
    have q : ¬ (160 : Int32) ≤ x := by ((try simp only [Int32.lt_iff_toInt_lt, Int32.le_iff_toInt_le, Int32.reduceToInt, ← Int32.toNat_toInt, ← Int32.toInt_inj] at *) <;> omega)
    have x1 : (x + 1).toInt = x.toInt + 1 := i32_succ (n := 160) (by omega) (by omega) (by omega)
    have e : x.toNatClampNeg = x.toInt.toNat := rfl
    have g : ¬ (x < 0 ∨ 160 ≤ x.toNatClampNeg) := by
      rw [Int32.lt_iff_toInt_lt]
      have v0 : (0 : Int32).toInt = 0 := rfl
      omega
    obtain ⟨y1, y2⟩ := shelf_ix (i := x) hs ha h0 (by omega)
    rw [if_neg q, if_neg q, if_pos g, if_pos y1, y2]
    exact ih m m2 (x + 1) (h.elem hs (k := x.toNatClampNeg) (by omega) 0) (by omega) (by omega) (by omega) (by omega)
theorem op_row {t : Nat} {I : am_mI} {J : am_mJ} {A : am_mI} {B : am_mJ} (h : am_Iv t I J A B) (a o n : Int32) : am_Tw (t + 20000) (DX7_row I J a o n) (DX8_row A B a o n) := by
  unfold DX7_row DX8_row
  rcases shelf_in a with ⟨h1, h2⟩ | ⟨s, hs, e1, e2, h1, h2, h3⟩
  · rw [if_pos h1, if_neg (not_not_intro h2)]
    exact .no1 h
  · have z : ¬ DX7_shelfAt a = 0 := by omega
    rw [if_neg z, if_pos h2, h1]
    simp only [if_pos h3]
    rw [e1]
    obtain ⟨c1, c2, c3, c4, c5, c6, c7, c8, c9, c10⟩ := h.sh s hs
    by_cases n0 : 0 ≤ n
    · rw [if_pos n0, if_pos n0]
      by_cases o0 : o < 0
      · rw [if_pos o0, if_pos o0]
        exact .no6 h
      rw [if_neg o0, if_neg o0]
      by_cases o1 : o < (4 : Int32)
      · have o2 : o ≤ (3 : Int32) := by ((try simp only [Int32.lt_iff_toInt_lt, Int32.le_iff_toInt_le, Int32.reduceToInt, ← Int32.toNat_toInt, ← Int32.toInt_inj] at *) <;> omega)
        rw [if_pos o1, if_pos o2]
        by_cases n1 : n ≤ (160 : Int32)
        · rw [if_pos n1, if_pos n1]
          have hT : am_Iv t (am_upI (am_upI (am_upI I (41 + 2 * s) 1 1) (41 + 2 * s) 2 o) (41 + 2 * s) 3 n) J (am_upI (am_upI (am_upI A 11 s 1) 12 s o) 13 s n) B := by
            refine h.shelf hs (fun k hk => ?_) (fun _ _ => rfl) (fun k k1 k2 k3 _ => ?_) (fun u hu => ⟨?_, ?_, ?_, rfl⟩) (fun _ _ _ _ _ => rfl) ?_ (fun q => absurd (show (1 : Int32) = 2 by rw [← q, am_upI_ne (by decide), am_upI_ne (by decide), am_upI_yes]) (by decide))
            · rw [am_upI_ne hk, am_upI_ne hk, am_upI_ne hk]
            · rw [am_upI_ne k3, am_upI_ne k2, am_upI_ne k1]
            · rw [am_upI_ne (by decide), am_upI_ne (by decide), am_upI_no hu]
            · rw [am_upI_ne (by decide), am_upI_no hu]
              rfl
            · rw [am_upI_no hu]
              rfl
            · have a11 : am_upI (am_upI (am_upI A 11 s 1) 12 s o) 13 s n 11 s = 1 := by rw [am_upI_ne (by decide), am_upI_ne (by decide), am_upI_yes]
              have a12 : am_upI (am_upI (am_upI A 11 s 1) 12 s o) 13 s n 12 s = o := by rw [am_upI_ne (by decide), am_upI_yes]
              have a13 : am_upI (am_upI (am_upI A 11 s 1) 12 s o) 13 s n 13 s = n := by rw [am_upI_yes]
              unfold am_Sh
              rw [a11, a12, a13]
              refine ⟨by rw [am_upI_no (by decide), am_upI_no (by decide), am_upI_yes], by rw [am_upI_no (by decide), am_upI_yes], fun _ => am_upI_yes, fun q => absurd rfl q, fun q => absurd q (by decide), Or.inr (Or.inl rfl), ?_, ?_, fun q => absurd q (by decide), c10⟩
              · clear c1 c2 c3 c4 c5 c6 c7 c8 c9 c10 a11 a12 a13 h1 h2 h3
                ((try simp only [Int32.lt_iff_toInt_lt, Int32.le_iff_toInt_le, Int32.reduceToInt, ← Int32.toNat_toInt, ← Int32.toInt_inj] at *) <;> omega)
              · clear c1 c2 c3 c4 c5 c6 c7 c8 c9 c10 a11 a12 a13 h1 h2 h3
                ((try simp only [Int32.lt_iff_toInt_lt, Int32.le_iff_toInt_le, Int32.reduceToInt, ← Int32.toNat_toInt, ← Int32.toInt_inj] at *) <;> omega)
          obtain ⟨J1, B1, r1, r2, r3⟩ := row_sim hs e2 160 am_FU am_FU 0 hT (by decide) (by decide) (by decide) (by decide)
          unfold DX3_takeRow DJ7_fill_d0a16
          have f1 : ¬ (160 : Int32) < n := by ((try simp only [Int32.lt_iff_toInt_lt, Int32.le_iff_toInt_le, Int32.reduceToInt, ← Int32.toNat_toInt, ← Int32.toInt_inj] at *) <;> omega)
          have f2 : (if (0 : Int32) < n then n else 0) = n := by
            by_cases f : (0 : Int32) < n
            · rw [if_pos f]
            · rw [if_neg f]
              ((try simp only [Int32.lt_iff_toInt_lt, Int32.le_iff_toInt_le, Int32.reduceToInt, ← Int32.toNat_toInt, ← Int32.toInt_inj] at *) <;> omega)
          rw [if_neg f1, f2, Option.bind_some, Option.bind_some, show 41 + 2 * s + 1 = 42 + 2 * s by omega, r1, r2, Option.bind_some, Option.bind_some]
          exact .mk1 r3
        · rw [if_neg n1, if_neg n1]
          exact .no7 h
      · have o2 : ¬ o ≤ (3 : Int32) := by ((try simp only [Int32.lt_iff_toInt_lt, Int32.le_iff_toInt_le, Int32.reduceToInt, ← Int32.toNat_toInt, ← Int32.toInt_inj] at *) <;> omega)
        rw [if_neg o1, if_neg o2]
        exact .no6 h
    · rw [if_neg n0, if_neg n0]
      exact .no4 h
/-! SENTENCES: what a shelf says -/
theorem under_any (I I' : am_mI) : ∀ (n : Nat) (x y z : Int32), LX2_isUnder n I x y z = LX2_isUnder n I' x y z := by
  intro n
  induction n with
  | zero => intro x y z; rfl
  | succ n ih =>
    intro x y z
    unfold LX2_isUnder
    simp only [ih]
    rfl
theorem under_tab : ∀ (k w : Fin 7), DX2_isUnder (fun _ _ => 0) (Int32.ofInt (k.1 : Int)) (Int32.ofInt (w.1 : Int)) = some (if w.1 = 0 ∨ w.1 = k.1 ∨ (w.1 = 1 ∧ k.1 = 3) ∨ (w.1 = 2 ∧ k.1 = 6) ∨ (w.1 = 4 ∧ k.1 = 5) then 1 else 0) := by decide +kernel
