/-! SENTENCES: the worst hour, all together, the best side -/
theorem hours_in {a b : Int32} (c : ¬ DX7_areHours a b = 0) : 0 ≤ a.toInt ∧ a.toInt ≤ b.toInt ∧ b.toInt ≤ 240 := by
  unfold DX7_areHours at c
  by_cases c0 : a < 0
  · rw [if_pos c0] at c
    exact absurd rfl c
  · rw [if_neg c0] at c
    by_cases c1 : b < a
    · rw [if_pos c1] at c
      exact absurd rfl c
    · rw [if_neg c1] at c
      by_cases c2 : (240 : Int32) < b
      · rw [if_pos c2] at c
        exact absurd rfl c
      · clear c
        ((try simp only [Int32.lt_iff_toInt_lt, Int32.le_iff_toInt_le, Int32.reduceToInt, ← Int32.toNat_toInt, ← Int32.toInt_inj] at *) <;> omega)
theorem worst_sim {t : Nat} {I : am_mI} {J : am_mJ} {A : am_mI} {B : am_mJ} (h : am_Iv t I J A B) (ht : t ≤ 61440000) {f : Int32} (hf : f.toInt ≤ 240) :
    ∀ (k m : Nat) (b l x : Int32), 0 ≤ x.toInt → x.toInt + k = f.toInt + 1 → k < m → ∃ r : Int32, LX4_worstHour m I 2 f b l x = some r ∧ LX8_worst m A B f b l x = some (r, A, B) := by
  intro k
  induction k with
  | zero =>
    intro m b l x h0 h1 hm
    obtain ⟨m, rfl⟩ : ∃ j, m = j + 1 := ⟨m - 1, by omega⟩
    unfold LX4_worstHour LX8_worst
    have q : f < x := by ((try simp only [Int32.lt_iff_toInt_lt, Int32.le_iff_toInt_le, Int32.reduceToInt, ← Int32.toNat_toInt, ← Int32.toInt_inj] at *) <;> omega)
    rw [if_pos q, if_pos q]
    exact ⟨b, rfl, rfl⟩
  | succ k ih =>
    intro m b l x h0 h1 hm
    obtain ⟨m, rfl⟩ : ∃ j, m = j + 1 := ⟨m - 1, by omega⟩
    unfold LX4_worstHour LX8_worst
    have q : ¬ f < x := by ((try simp only [Int32.lt_iff_toInt_lt, Int32.le_iff_toInt_le, Int32.reduceToInt, ← Int32.toNat_toInt, ← Int32.toInt_inj] at *) <;> omega)
    have x1 : (x + 1).toInt = x.toInt + 1 := i32_succ (n := 241) (by omega) (by omega) (by omega)
    rw [if_neg q, if_neg q, h.sided.1]
    obtain ⟨r, r1, r2, -⟩ := looksAs h ht (am_Off.me A) rfl h.sided.2 (n := x) (by omega)
    rw [r1, r2]
    simp only [Option.bind_some]
    by_cases z : r < l
    · rw [if_neg (by ((try simp only [Int32.lt_iff_toInt_lt, Int32.le_iff_toInt_le, Int32.reduceToInt, ← Int32.toNat_toInt, ← Int32.toInt_inj] at *) <;> omega)), if_pos z]
      exact ih m x r (x + 1) (by omega) (by omega) (by omega)
    · rw [if_pos (by ((try simp only [Int32.lt_iff_toInt_lt, Int32.le_iff_toInt_le, Int32.reduceToInt, ← Int32.toNat_toInt, ← Int32.toInt_inj] at *) <;> omega)), if_neg z]
      exact ih m b l (x + 1) (by omega) (by omega) (by omega)
theorem op_worst {t : Nat} {I : am_mI} {J : am_mJ} {A : am_mI} {B : am_mJ} (h : am_Iv t I J A B) (ht : t ≤ 61440000) (a b : Int32) : am_Tw (t + 20000) (DX7_worst I J a b) (DX8_worst A B a b) := by
  unfold DX7_worst DX8_worst
  rw [op_areHours]
  by_cases c : ¬ DX7_areHours a b = 0
  · rw [if_pos c, if_pos c]
    have hr := hours_in c
    obtain ⟨r, r1, r2, -⟩ := looksAs h ht (am_Off.me A) rfl h.sided.2 (n := a) (by omega)
    unfold DX4_worstHour
    rw [h.sided.1, r1, r2]
    simp only [Option.bind_some]
    have x1 : (a + 1).toInt = a.toInt + 1 := i32_succ (n := 241) (by omega) (by omega) (by omega)
    obtain ⟨w, w1, w2⟩ := worst_sim h ht (f := b) hr.2.2 (b.toInt - a.toInt).toNat am_FU a r (a + 1) (by omega) (by omega) (by have : am_FU = 1000000 := rfl; omega)
    rw [w1, w2]
    exact .mk1 h
  · rw [if_neg c, if_neg c]
    exact .no6 h
theorem all_sim {t : Nat} {I : am_mI} {J : am_mJ} {A : am_mI} {B : am_mJ} (h : am_Iv t I J A B) (ht : t ≤ 61440000) {A' : am_mI} (e : am_Off A A') {v : Int32} (ev : A' 0 1 = v) (hv : 0 ≤ v.toInt ∧ v.toInt ≤ 2) {f : Int32} (hf : f.toInt ≤ 240) :
    ∀ (k m : Nat) (s x : Int32), 0 ≤ x.toInt → x.toInt + k = f.toInt + 1 → k < m → 0 ≤ s.toInt → s.toInt ≤ 216 * x.toInt → ∃ r : Int32, LX4_looksTogether m I 2 v f s x = some r ∧ LX8_allOf m A' f s x = some r ∧ 0 ≤ r.toInt := by
  intro k
  induction k with
  | zero =>
    intro m s x h0 h1 hm s0 s1
    obtain ⟨m, rfl⟩ : ∃ j, m = j + 1 := ⟨m - 1, by omega⟩
    unfold LX4_looksTogether LX8_allOf
    have q : f < x := by ((try simp only [Int32.lt_iff_toInt_lt, Int32.le_iff_toInt_le, Int32.reduceToInt, ← Int32.toNat_toInt, ← Int32.toInt_inj] at *) <;> omega)
    rw [if_pos q, if_pos q]
    exact ⟨s, rfl, rfl, s0⟩
  | succ k ih =>
    intro m s x h0 h1 hm s0 s1
    obtain ⟨m, rfl⟩ : ∃ j, m = j + 1 := ⟨m - 1, by omega⟩
    unfold LX4_looksTogether LX8_allOf
    have q : ¬ f < x := by ((try simp only [Int32.lt_iff_toInt_lt, Int32.le_iff_toInt_le, Int32.reduceToInt, ← Int32.toNat_toInt, ← Int32.toInt_inj] at *) <;> omega)
    have x1 : (x + 1).toInt = x.toInt + 1 := i32_succ (n := 241) (by omega) (by omega) (by omega)
    rw [if_neg q, if_neg q]
    obtain ⟨r, r1, r2, r3, r4⟩ := looksAs h ht e ev hv (n := x) (by omega)
    rw [r1, r2]
    simp only [Option.bind_some]
    have a : (s + r).toInt = s.toInt + r.toInt := by
      rw [Int32.toInt_add]
      exact Int.bmod_eq_of_le (by omega) (by omega)
    exact ih m (s + r) (x + 1) (by omega) (by omega) (by omega) (by omega) (by omega)
theorem allAs {t : Nat} {I : am_mI} {J : am_mJ} {A : am_mI} {B : am_mJ} (h : am_Iv t I J A B) (ht : t ≤ 61440000) {A' : am_mI} (e : am_Off A A') {v : Int32} (ev : A' 0 1 = v) (hv : 0 ≤ v.toInt ∧ v.toInt ≤ 2) {a b : Int32} (c : ¬ DX7_areHours a b = 0) :
    ∃ r : Int32, DX4_looksTogether I 2 v a b = some r ∧ DX8_allOf A' a b = some r ∧ 0 ≤ r.toInt := by
  have hr := hours_in c
  have z : (0 : Int32).toInt = 0 := rfl
  exact all_sim h ht e ev hv (f := b) hr.2.2 (b.toInt + 1 - a.toInt).toNat am_FU 0 a (by omega) (by omega) (by have : am_FU = 1000000 := rfl; omega) (by omega) (by omega)
theorem op_all {t : Nat} {I : am_mI} {J : am_mJ} {A : am_mI} {B : am_mJ} (h : am_Iv t I J A B) (ht : t ≤ 61440000) (a b : Int32) : am_Tw (t + 20000) (DX7_all I J a b) (DX8_all A B a b) := by
  unfold DX7_all DX8_all
  rw [op_areHours, h.sided.1]
  by_cases c : DX7_areHours a b = 0
  · rw [if_pos c, if_neg (not_not_intro c)]
    exact .no6 h
  · obtain ⟨r, r1, r2, -⟩ := allAs h ht (am_Off.me A) rfl h.sided.2 c
    rw [if_neg c, if_pos c, r1, r2]
    exact .mk1 h
theorem am_upI_twice {I : am_mI} {h k : Nat} {v w : Int32} : am_upI (am_upI I h k v) h k w = am_upI I h k w := by
  funext a b
  unfold am_upI
  by_cases q : a = h ∧ b = k
  · rw [if_pos q, if_pos q]
  · rw [if_neg q, if_neg q, if_neg q]
theorem am_upI_self {I : am_mI} {h k : Nat} : am_upI I h k (I h k) = I := by
  funext a b
  unfold am_upI
  by_cases q : a = h ∧ b = k
  · rw [if_pos q, q.1, q.2]
  · rw [if_neg q]
theorem am_Off.up (A : am_mI) (k : Nat) (v : Int32) : am_Off A (am_upI A 0 k v) := fun k hk => am_upI_ne hk
theorem am_FU1 : ∃ m, am_FU = m + 1 ∧ 100000 < m := by
  have q : am_FU = 1000000 := rfl
  exact ⟨am_FU - 1, by omega, by omega⟩
theorem turn_sim {t : Nat} {I : am_mI} {J : am_mJ} {A : am_mI} {B : am_mJ} (h : am_Iv t I J A B) (ht : t ≤ 61440000) {a b : Int32} (c : ¬ DX7_areHours a b = 0) :
    ∀ (k m m2 : Nat) (s l x : Int32), 0 ≤ x.toInt → x.toInt + k = 3 → k < m → k < m2 → ∃ r : Int32, LX4_bestSide m I 2 a b s l x = some r ∧ LX8_turn m2 (am_upI A 0 1 x) B a b (A 0 1) s l = some (r, A, B) := by
  intro k
  induction k with
  | zero =>
    intro m m2 s l x h0 h1 hm hm2
    obtain ⟨m, rfl⟩ : ∃ j, m = j + 1 := ⟨m - 1, by omega⟩
    obtain ⟨m2, rfl⟩ : ∃ j, m2 = j + 1 := ⟨m2 - 1, by omega⟩
    unfold LX4_bestSide LX8_turn
    have q : (3 : Int32) ≤ x := by ((try simp only [Int32.lt_iff_toInt_lt, Int32.le_iff_toInt_le, Int32.reduceToInt, ← Int32.toNat_toInt, ← Int32.toInt_inj] at *) <;> omega)
    rw [if_pos q, am_upI_yes, if_pos q, am_upI_twice, am_upI_self]
    exact ⟨s, rfl, rfl⟩
  | succ k ih =>
    intro m m2 s l x h0 h1 hm hm2
    obtain ⟨m, rfl⟩ : ∃ j, m = j + 1 := ⟨m - 1, by omega⟩
    obtain ⟨m2, rfl⟩ : ∃ j, m2 = j + 1 := ⟨m2 - 1, by omega⟩
    unfold LX4_bestSide LX8_turn
    have q : ¬ (3 : Int32) ≤ x := by ((try simp only [Int32.lt_iff_toInt_lt, Int32.le_iff_toInt_le, Int32.reduceToInt, ← Int32.toNat_toInt, ← Int32.toInt_inj] at *) <;> omega)
    have x1 : (x + 1).toInt = x.toInt + 1 := i32_succ (n := 3) (by omega) (by omega) (by omega)
    rw [if_neg q, am_upI_yes, if_neg q]
    obtain ⟨r, r1, r2, -⟩ := allAs h ht (am_Off.up A 1 x) (v := x) am_upI_yes (by omega) c
    rw [r1, r2, am_upI_twice]
    simp only [Option.bind_some]
    by_cases z : l < r
    · rw [if_neg (by ((try simp only [Int32.lt_iff_toInt_lt, Int32.le_iff_toInt_le, Int32.reduceToInt, ← Int32.toNat_toInt, ← Int32.toInt_inj] at *) <;> omega)), if_pos z]
      exact ih m m2 x r (x + 1) (by omega) (by omega) (by omega) (by omega)
    · rw [if_pos (by ((try simp only [Int32.lt_iff_toInt_lt, Int32.le_iff_toInt_le, Int32.reduceToInt, ← Int32.toNat_toInt, ← Int32.toInt_inj] at *) <;> omega)), if_neg z]
      exact ih m m2 s l (x + 1) (by omega) (by omega) (by omega) (by omega)
theorem op_turn {t : Nat} {I : am_mI} {J : am_mJ} {A : am_mI} {B : am_mJ} (h : am_Iv t I J A B) (ht : t ≤ 61440000) (a b : Int32) : am_Tw (t + 20000) (DX7_turn I J a b) (DX8_turn A B a b) := by
  unfold DX7_turn DX8_turn
  rw [op_areHours]
  by_cases c : ¬ DX7_areHours a b = 0
  · rw [if_pos c, if_pos c]
    obtain ⟨r, r1, r2, r3⟩ := allAs h ht (am_Off.up A 1 0) (v := 0) am_upI_yes (by decide) c
    obtain ⟨m, em, hm⟩ := am_FU1
    obtain ⟨w, w1, w2⟩ := turn_sim h ht c 2 am_FU m 0 r 1 (by decide) (by decide) (by decide) (by omega)
    have e : LX8_turn (m + 1) (am_upI A 0 1 0) B a b (A 0 1) 0 (-1) = some (w, A, B) := by
      unfold LX8_turn
      rw [am_upI_yes, if_neg (by decide), r2, am_upI_twice]
      simp only [Option.bind_some]
      have g : (-1 : Int32) < r := by
        clear w1 w2 r1 r2 em hm
        ((try simp only [Int32.lt_iff_toInt_lt, Int32.le_iff_toInt_le, Int32.reduceToInt, ← Int32.toNat_toInt, ← Int32.toInt_inj] at *) <;> omega)
      rw [if_pos g]
      exact w2
    have u : DX4_bestSide I 2 a b = some w := by
      unfold DX4_bestSide
      rw [r1, Option.bind_some]
      exact w1
    rw [u, em, e, Option.bind_some]
    exact .mk1 h
  · rw [if_neg c, if_neg c]
    exact .no6 h
