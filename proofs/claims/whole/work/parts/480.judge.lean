/-! SENTENCES: judge -/
theorem stuffO {X A : am_mI} {o : Nat} {a : Int32} (e : X o 3 = A 0 0) (hn : 0 ≤ (A 0 0).toInt ∧ (A 0 0).toInt ≤ 8) : DX1_isStuff X o a = DX8_isStuff A a := by
  unfold DX1_isStuff DX8_isStuff
  have q1 : (8 : Int32).toInt = 8 := rfl
  rw [e]
  by_cases h0 : a < 0
  · rw [if_pos h0, if_pos h0]
  · rw [if_neg h0, if_neg h0]
    by_cases h1 : A 0 0 ≤ a
    · rw [if_pos h1, if_pos h1]
    · rw [if_neg h1, if_neg h1, if_neg]
      rw [Int32.le_iff_toInt_le] at h1 ⊢
      omega
theorem mayO {X A : am_mI} {o : Nat} (h5 : ∀ i, i < 24 → X (o + 5) i = A 6 i) (h4 : ∀ i, i < 24 → X (o + 4) i = A 5 i) {a : Int32} (c : ¬ DX7_isCell a = 0) : ∃ r : Int32, DX1_mayBeLaid X o a = some r ∧ DX8_mayLay A a = some r := by
  have c2 := cell_in c
  unfold DX1_mayBeLaid DX8_mayLay
  rw [if_neg c, if_pos c2.1, if_pos c2.1, h5 _ (cell_lt c)]
  by_cases e : A 6 a.toNatClampNeg = -1
  · rw [if_pos e, if_neg (fun q => q e)]
    have v4 : (4 : Int32).toInt = 4 := rfl
    have v24 : (24 : Int32).toInt = 24 := rfl
    have v0 : (0 : Int32).toInt = 0 := rfl
    have ea : (a + 4).toInt = a.toInt + 4 := by
      rw [Int32.toInt_add, v4]
      exact Int.bmod_eq_of_le (by omega) (by omega)
    by_cases b : (24 : Int32) ≤ a + 4
    · have c4 : DX7_isCell (a + 4) = 0 := by
        unfold DX7_isCell
        rw [if_pos b, if_neg]
        rw [Int32.lt_iff_toInt_lt]
        omega
      unfold DX1_laidAt DX1_drawnAt
      rw [if_pos b, if_pos c4, if_pos c4]
      exact ⟨_, rfl, rfl⟩
    · have c4 : ¬ DX7_isCell (a + 4) = 0 := by
        unfold DX7_isCell
        rw [if_neg b, if_neg]
        · decide
        · rw [Int32.lt_iff_toInt_lt]
          omega
      have c5 := (cell_in c4).1
      unfold DX1_laidAt DX1_drawnAt
      rw [if_neg b, if_neg c4, if_pos c5, if_neg c4, if_pos c5, if_pos c5, if_pos c5, h5 _ (cell_lt c4), h4 _ (cell_lt c4)]
      simp only [Option.bind_some]
      by_cases l : ¬ A 6 (a + 4).toNatClampNeg = -1
      · rw [if_pos l]
        exact ⟨_, rfl, rfl⟩
      · rw [if_neg l]
        by_cases d : ¬ A 5 (a + 4).toNatClampNeg = -1
        · rw [if_pos d]
          exact ⟨_, rfl, rfl⟩
        · rw [if_neg d]
          exact ⟨_, rfl, rfl⟩
  · rw [if_neg e, if_pos e]
    exact ⟨_, rfl, rfl⟩
theorem mayO_no {X : am_mI} {o : Nat} {a : Int32} (c : DX7_isCell a = 0) : DX1_mayBeLaid X o a = some 0 := by
  unfold DX1_mayBeLaid
  rw [if_pos c]
theorem told_off {X I : am_mI} {J : am_mJ} {o : Nat} {i : Int32} (e : X o = I o) : DX3_toldAt X J o i = DX3_toldAt I J o i := by
  unfold DX3_toldAt DX3_elementAt DX3_hasElement
  rw [e]
/-- saved ahead of k, restored ahead of k -/
def am_sv (A : am_mI) (k : Nat) : am_mI := fun a b => if a = 24 ∧ b < k then A 6 b else A a b
def am_rs (A : am_mI) (k : Nat) : am_mI := fun a b => if a = 6 ∧ b < k then A 24 b else A a b
theorem am_sv.step {A : am_mI} {k : Nat} : am_upI (am_sv A k) 24 k (am_sv A k 6 k) = am_sv A (k + 1) := by
  funext a b
  unfold am_upI am_sv
  rw [if_neg (show ¬ ((6 : Nat) = 24 ∧ k < k) by omega)]
  by_cases p : a = 24
  · by_cases q : b = k
    · rw [if_pos ⟨p, q⟩, if_pos ⟨p, by omega⟩, q]
    · rw [if_neg (fun z => q z.2)]
      by_cases r : b < k
      · rw [if_pos ⟨p, r⟩, if_pos ⟨p, by omega⟩]
      · rw [if_neg (fun z => r z.2), if_neg (fun z => r (by omega))]
  · rw [if_neg (fun z => p z.1), if_neg (fun z => p z.1), if_neg (fun z => p z.1)]
theorem am_rs.step {A : am_mI} {k : Nat} : am_upI (am_rs A k) 6 k (am_rs A k 24 k) = am_rs A (k + 1) := by
  funext a b
  unfold am_upI am_rs
  rw [if_neg (show ¬ ((24 : Nat) = 6 ∧ k < k) by omega)]
  by_cases p : a = 6
  · by_cases q : b = k
    · rw [if_pos ⟨p, q⟩, if_pos ⟨p, by omega⟩, q]
    · rw [if_neg (fun z => q z.2)]
      by_cases r : b < k
      · rw [if_pos ⟨p, r⟩, if_pos ⟨p, by omega⟩]
      · rw [if_neg (fun z => r z.2), if_neg (fun z => r (by omega))]
  · rw [if_neg (fun z => p z.1), if_neg (fun z => p z.1), if_neg (fun z => p z.1)]
theorem save_sim {A : am_mI} {B : am_mJ} {a n : Int32} : ∀ (k m : Nat) (x : Int32), 0 ≤ x.toInt → x.toInt + k = 24 →
    LX8_judge (m + k + 1) 0 (am_sv A x.toNatClampNeg) B a n x 0 = LX8_judge m 1 (am_sv A 24) B a n (-1) 0 := by
  intro k
  induction k with
  | zero =>
    intro m x h0 h1
    have e : x.toNatClampNeg = x.toInt.toNat := rfl
    have q : (24 : Int32) ≤ x := by ((try simp only [Int32.lt_iff_toInt_lt, Int32.le_iff_toInt_le, Int32.reduceToInt, ← Int32.toNat_toInt, ← Int32.toInt_inj] at *) <;> omega)
    rw [LX8_judge_s0, if_pos q, show x.toNatClampNeg = 24 by omega]
  | succ k ih =>
    intro m x h0 h1
    have e : x.toNatClampNeg = x.toInt.toNat := rfl
    have q : ¬ (24 : Int32) ≤ x := by ((try simp only [Int32.lt_iff_toInt_lt, Int32.le_iff_toInt_le, Int32.reduceToInt, ← Int32.toNat_toInt, ← Int32.toInt_inj] at *) <;> omega)
    have x1 : (x + 1).toInt = x.toInt + 1 := i32_succ (n := 24) (by omega) (by omega) (by omega)
    have x2 : (x + 1).toNatClampNeg = x.toNatClampNeg + 1 := by
      have e2 : (x + 1).toNatClampNeg = (x + 1).toInt.toNat := rfl
      omega
    have g : ¬ (x < 0 ∨ 24 ≤ x.toNatClampNeg) := am_in (n := 24) (by ((try simp only [Int32.lt_iff_toInt_lt, Int32.le_iff_toInt_le, Int32.reduceToInt, ← Int32.toNat_toInt, ← Int32.toInt_inj] at *) <;> omega)) (by omega)
    have hh := ih m (x + 1) (by omega) (by omega)
    rw [x2] at hh
    rw [show m + (k + 1) + 1 = (m + k + 1) + 1 from rfl, LX8_judge_s0, if_neg q, if_pos g, if_pos g, am_sv.step, hh]
theorem rest_sim {A : am_mI} {B : am_mJ} {r : Int32} : ∀ (k m : Nat) (x : Int32), 0 ≤ x.toInt → x.toInt + k = 24 →
    LX8_judge (m + k + 1) 2 (am_rs A x.toNatClampNeg) B 0 0 r x = some (r, am_rs A 24, B) := by
  intro k
  induction k with
  | zero =>
    intro m x h0 h1
    have e : x.toNatClampNeg = x.toInt.toNat := rfl
    have q : (24 : Int32) ≤ x := by ((try simp only [Int32.lt_iff_toInt_lt, Int32.le_iff_toInt_le, Int32.reduceToInt, ← Int32.toNat_toInt, ← Int32.toInt_inj] at *) <;> omega)
    rw [LX8_judge_s2, if_pos q, show x.toNatClampNeg = 24 by omega]
  | succ k ih =>
    intro m x h0 h1
    have e : x.toNatClampNeg = x.toInt.toNat := rfl
    have q : ¬ (24 : Int32) ≤ x := by ((try simp only [Int32.lt_iff_toInt_lt, Int32.le_iff_toInt_le, Int32.reduceToInt, ← Int32.toNat_toInt, ← Int32.toInt_inj] at *) <;> omega)
    have x1 : (x + 1).toInt = x.toInt + 1 := i32_succ (n := 24) (by omega) (by omega) (by omega)
    have x2 : (x + 1).toNatClampNeg = x.toNatClampNeg + 1 := by
      have e2 : (x + 1).toNatClampNeg = (x + 1).toInt.toNat := rfl
      omega
    have g : ¬ (x < 0 ∨ 24 ≤ x.toNatClampNeg) := am_in (n := 24) (by ((try simp only [Int32.lt_iff_toInt_lt, Int32.le_iff_toInt_le, Int32.reduceToInt, ← Int32.toNat_toInt, ← Int32.toInt_inj] at *) <;> omega)) (by omega)
    have hh := ih m (x + 1) (by omega) (by omega)
    rw [x2] at hh
    rw [show m + (k + 1) + 1 = (m + k + 1) + 1 from rfl, LX8_judge_s2, if_neg q, if_pos g, if_pos g, am_rs.step, hh]
/-- x's draft against m's board while layings are judged -/
def am_Jd (X A A1 : am_mI) : Prop := (∀ i, i < 24 → X 17 i = A1 6 i) ∧ (∀ i, i < 24 → X 16 i = A 5 i) ∧ X 12 3 = A 0 0 ∧ (∀ k, k ≠ 6 → A1 k = A k) ∧ (∀ i, 24 ≤ i → A1 6 i = A 6 i)
theorem am_Ot.up {I A : am_mI} (h : am_Ot I A) {c k : Nat} {v : Int32} (hc : 16 ≤ c ∧ c ≤ 21) (hk : k < 24) : am_Ot (am_upI I c k v) A := by
  have e : ∀ a i, 24 ≤ i → am_upI I c k v a i = I a i := fun a i hi => if_neg (fun z => by have := z.2; omega)
  refine ⟨fun i hi => ?_, fun i hi => ?_⟩
  · rw [am_upI_ne (a := 13) (by omega), am_upI_ne (a := 14) (by omega), am_upI_ne (a := 15) (by omega)]
    exact h.1 i hi
  · rw [e 16 i hi, e 17 i hi, e 18 i hi, e 19 i hi, e 20 i hi, e 21 i hi]
    exact h.2 i hi
theorem judge_sim {a n : Int32} {s : Nat} (hs : s < 8) (ea : a.toInt = (s : Int)) (hn40 : n.toInt ≤ 40) {t : Nat} {I : am_mI} {J : am_mJ} {A : am_mI} {B : am_mJ} (h : am_Iv t I J A B) (hr : A 11 s = 1) (hn : n.toInt ≤ (A 13 s).toInt) :
    ∀ (k m m2 : Nat) (x : Int32) (X A1 : am_mI), am_Jd X A A1 → (∀ q, q < 12 ∨ 22 ≤ q → X q = I q) → am_Ot X A → 0 ≤ x.toInt → x.toInt + k = n.toInt → k < m →
    ∃ (r : Int32) (m3 : Nat) (X2 A2 : am_mI), m2 ≤ m3 ∧ LX4_firstBadLaying m X J 12 (41 + 2 * s) n x = some (r, X2, J) ∧ LX8_judge (m2 + k + 2) 1 A1 B a n (-1) x = LX8_judge m3 2 A2 B 0 0 r 0 ∧ am_Jd X2 A A2 ∧ (∀ q, q < 12 ∨ 22 ≤ q → X2 q = I q) ∧ am_Ot X2 A := by
  intro k
  induction k with
  | zero =>
    intro m m2 x X A1 hd hf ho h0 h1 hm
    obtain ⟨m, rfl⟩ : ∃ j, m = j + 1 := ⟨m - 1, by omega⟩
    have q : n ≤ x := by
      rw [Int32.le_iff_toInt_le]
      omega
    unfold LX4_firstBadLaying
    rw [show m2 + 0 + 2 = (m2 + 1) + 1 from rfl, LX8_judge_s1, if_pos q, if_pos q]
    exact ⟨-1, m2 + 1, X, A1, by omega, rfl, rfl, hd, hf, ho⟩
  | succ k ih =>
    intro m m2 x X A1 hd hf ho h0 h1 hm
    obtain ⟨m, rfl⟩ : ∃ j, m = j + 1 := ⟨m - 1, by omega⟩
    have q : ¬ n ≤ x := by
      rw [Int32.le_iff_toInt_le]
      omega
    have x1 : (x + 1).toInt = x.toInt + 1 := i32_succ (n := 100) (by omega) (by omega) (by omega)
    have zn : ¬ ¬ (-1 : Int32) = -1 := fun f => f rfl
    have z10 : ¬ (10 : Int32) = 0 := by decide
    obtain ⟨v, v1, v2⟩ := toldAs h (a := a) (i := x) hs ea hr h0 (by omega)
    have tx : DX3_toldAt X J (41 + 2 * s) x = some v := (told_off (hf _ (by omega))).trans v1
    obtain ⟨d1, d2, d3, d4, d5⟩ := hd
    have a5 : A1 5 = A 5 := d4 5 (by decide)
    have a0 : A1 0 = A 0 := d4 0 (by decide)
    have hx : ¬ x = -1 := fun f => by
      rw [f] at h0
      exact absurd h0 (by decide)
    have stop : ∃ m3, m2 ≤ m3 ∧ LX8_judge (m2 + k + 2) 1 A1 B a n x (x + 1) = LX8_judge m3 2 A1 B 0 0 x 0 := by
      refine ⟨m2 + k + 1, by omega, ?_⟩
      rw [show m2 + k + 2 = (m2 + k + 1) + 1 from rfl, LX8_judge_s1, if_pos hx]
      split <;> rfl
    obtain ⟨m3, hm3, st⟩ := stop
    have bad : ∀ o p, o = some (x, X, J) → p = LX8_judge (m2 + k + 2) 1 A1 B a n x (x + 1) → ∃ (r : Int32) (m3 : Nat) (X2 A2 : am_mI), m2 ≤ m3 ∧ o = some (r, X2, J) ∧ p = LX8_judge m3 2 A2 B 0 0 r 0 ∧ am_Jd X2 A A2 ∧ (∀ q, q < 12 ∨ 22 ≤ q → X2 q = I q) ∧ am_Ot X2 A :=
      fun o p e1 e2 => ⟨x, m3, X, A1, hm3, e1, e2.trans st, ⟨d1, d2, d3, d4, d5⟩, hf, ho⟩
    unfold LX4_firstBadLaying
    rw [show m2 + (k + 1) + 2 = (m2 + k + 2) + 1 from rfl, LX8_judge_s1, if_neg q, if_neg q, if_neg zn, tx, v2, Option.bind_some, Option.bind_some]
    simp only [if_pos z10]
    by_cases y : v < 0
    · have y2 : ¬ 0 ≤ v := by ((try simp only [Int32.lt_iff_toInt_lt, Int32.le_iff_toInt_le, Int32.reduceToInt, ← Int32.toNat_toInt, ← Int32.toInt_inj] at *) <;> omega)
      rw [if_neg y2, if_pos y]
      exact bad _ _ rfl rfl
    · have y2 : 0 ≤ v := by
        rw [Int32.le_iff_toInt_le]
        rw [Int32.lt_iff_toInt_lt] at y
        omega
      rw [if_pos y2, if_neg y, op_isCell]
      obtain ⟨c, ec⟩ : ∃ c, c = v / 10 := ⟨_, rfl⟩
      obtain ⟨w, ew⟩ : ∃ w, w = v - v / 10 * 10 := ⟨_, rfl⟩
      rw [← ew, ← ec]
      by_cases cc : DX7_isCell c = 0
      · rw [mayO_no cc, Option.bind_some, if_pos rfl, if_pos cc]
        exact bad _ _ rfl rfl
      · have c2 := cell_in cc
        obtain ⟨f, f1, f2⟩ := mayO (X := X) (A := A1) (o := 12) d1 (fun i hi => by rw [a5]; exact d2 i hi) cc
        have sO : DX1_isStuff X 12 w = DX8_isStuff A1 w := stuffO (by rw [d3, a0]) (by rw [a0]; exact h.nn)
        rw [if_neg cc, f1, f2, Option.bind_some, Option.bind_some, sO]
        by_cases sw : DX8_isStuff A1 w = 0
        · rw [if_pos sw, if_neg (not_not_intro sw)]
          by_cases fz : f = 0
          · rw [if_pos fz]
            exact bad _ _ rfl rfl
          · rw [if_neg fz]
            exact bad _ _ rfl rfl
        · rw [if_neg sw, if_pos sw]
          by_cases fz : f = 0
          · rw [if_pos fz, if_neg (not_not_intro fz)]
            exact bad _ _ rfl rfl
          · rw [if_neg fz, if_pos fz, if_pos c2.1]
            have lay : DX1_layOn X J 12 c w = some (0, am_upI (am_upI (am_upI (am_upI X 17 c.toNatClampNeg w) 19 c.toNatClampNeg 0) 20 c.toNatClampNeg 0) 21 c.toNatClampNeg 0, J) := by
              unfold DX1_layOn DX1_takeOver
              rw [if_neg cc, if_pos c2.1, if_pos c2.1, if_pos c2.1, Option.bind_some, if_pos c2.1, Option.bind_some]
            rw [lay, Option.bind_some]
            dsimp only
            have hc := cell_lt cc
            refine ih m m2 (x + 1) _ _ ⟨?_, ?_, ?_, ?_, ?_⟩ ?_ ?_ (by omega) (by omega) (by omega)
            · intro i hi
              rw [am_upI_ne (a := 17) (by decide), am_upI_ne (a := 17) (by decide), am_upI_ne (a := 17) (by decide), am_upI_at, am_upI_at]
              dsimp only
              rw [d1 i hi]
            · intro i hi
              rw [am_upI_ne (by decide), am_upI_ne (by decide), am_upI_ne (by decide), am_upI_ne (by decide)]
              exact d2 i hi
            · rw [am_upI_ne (by decide), am_upI_ne (by decide), am_upI_ne (by decide), am_upI_ne (by decide)]
              exact d3
            · intro k hk
              rw [am_upI_ne hk]
              exact d4 k hk
            · intro i hi
              rw [am_upI_no (by omega)]
              exact d5 i hi
            · intro q hq
              rw [am_upI_ne (by omega), am_upI_ne (by omega), am_upI_ne (by omega), am_upI_ne (by omega)]
              exact hf q hq
            · exact (((ho.up (by decide) hc).up (by decide) hc).up (by decide) hc).up (by decide) hc
theorem draft_ot {t : Nat} {I : am_mI} {J : am_mJ} {A : am_mI} {B : am_mJ} (h : am_Iv t I J A B) : am_Ot (am_bl I 12 2) A := by
  refine ⟨fun i hi => ?_, fun i hi => ?_⟩
  · have e : ∀ q, 1 ≤ q ∧ q ≤ 3 → am_bl I 12 2 (12 + q) i = I (12 + q) i := by
      intro q hq
      unfold am_bl
      rw [if_neg (by omega), if_pos (by omega), if_neg (by omega)]
    rw [e 1 (by decide), e 2 (by decide), e 3 (by decide)]
    exact h.ot.1 i hi
  · have e : ∀ q, 4 ≤ q ∧ q ≤ 9 → am_bl I 12 2 (12 + q) i = I (12 + q) i := by
      intro q hq
      unfold am_bl
      rw [if_neg (by omega), if_neg (by omega), if_pos (by omega), if_neg (by omega)]
    rw [e 4 (by decide), e 5 (by decide), e 6 (by decide), e 7 (by decide), e 8 (by decide), e 9 (by decide)]
    exact h.ot.2 i hi
theorem bl_off {I : am_mI} {o g a : Nat} (h : a < o ∨ o + 10 ≤ a) : am_bl I o g a = I a := by
  funext b
  unfold am_bl
  rw [if_neg (by omega), if_neg (by omega), if_neg (by omega)]
theorem op_judge {t : Nat} {I : am_mI} {J : am_mJ} {A : am_mI} {B : am_mJ} (h : am_Iv t I J A B) (a n : Int32) : am_Tw (t + 20000) (DX7_judge I J a n) (DX8_judge A B a n) := by
  unfold DX7_judge DX8_judge
  have f : am_FU = 1000000 := rfl
  rcases tellAs h a n with ⟨h1, h2⟩ | ⟨s, b, hs, e1, e2, h1, h2, h3, h4, h5⟩
  · rw [if_pos h1, h2, Option.bind_some, if_pos (by decide), if_neg (by decide)]
    exact .noTen1 h
  · rw [if_neg (by omega), h1, h2, h3, Option.bind_some]
    by_cases b0 : b = 0
    · obtain ⟨r, n0, nn⟩ := h5 b0
      rw [if_pos b0, if_neg (not_not_intro b0)]
      by_cases y : n ≤ (40 : Int32)
      · rw [if_pos y, if_pos y, if_pos b0, likeAs I J (by decide), Option.bind_some]
        have y40 : n.toInt ≤ 40 := by
          rw [Int32.le_iff_toInt_le] at y
          exact y
        have z0 : (0 : Int32).toInt = 0 := rfl
        have jd : am_Jd (am_bl I 12 2) (am_sv A 24) (am_sv A 24) := by
          refine ⟨fun i hi => ?_, fun i hi => ?_, h.bd.n0, fun _ _ => rfl, fun _ _ => rfl⟩
          · show (if i < 24 then I 7 i else I 17 i) = A 6 i
            rw [if_pos hi]
            exact congrFun h.bd.r4 i
          · show (if i < 24 then I 6 i else I 16 i) = A 5 i
            rw [if_pos hi]
            exact congrFun h.bd.r3 i
        have hS : am_Iv t I J (am_sv A 24) B := by
          refine h.same (fun _ _ => rfl) (fun k hk => ?_) rfl rfl ?_
          · funext i
            exact if_neg (fun z => by have := z.1; omega)
          · exact h.ot
        have s1 := save_sim (A := A) (B := B) (a := a) (n := n) 24 (am_FU - 25) 0 (by decide) (by decide)
        rw [show (0 : Int32).toNatClampNeg = 0 from rfl, show am_FU - 25 + 24 + 1 = am_FU by omega, show am_sv A 0 = A by funext a b; exact if_neg (fun z => by have := z.2; omega)] at s1
        obtain ⟨w, m3, X2, A2, g1, g2, g3, g4, g5, g6⟩ := judge_sim hs e2 y40 hS r nn n.toInt.toNat am_FU (am_FU - 25 - n.toInt.toNat - 2) 0 (am_bl I 12 2) (am_sv A 24) jd (fun q hq => bl_off (by omega)) (draft_ot hS) (by omega) (by omega) (by omega)
        rw [show am_FU - 25 - n.toInt.toNat - 2 + n.toInt.toNat + 2 = am_FU - 25 by omega] at g3
        have s2 := rest_sim (A := A2) (B := B) (r := w) 24 (m3 - 25) 0 (by decide) (by decide)
        rw [show (0 : Int32).toNatClampNeg = 0 from rfl, show m3 - 25 + 24 + 1 = m3 by omega, show am_rs A2 0 = A2 by funext a b; exact if_neg (fun z => by have := z.2; omega)] at s2
        unfold DX4_firstBadLaying
        dsimp only
        rw [g2, Option.bind_some, s1, g3, s2]
        obtain ⟨j1, j2, j3, j4, j5⟩ := g4
        have fin : ∀ k, k ≠ 24 → am_rs A2 24 k = A k := by
          intro k hk
          funext i
          unfold am_rs
          by_cases p : k = 6
          · by_cases q : i < 24
            · rw [if_pos ⟨p, q⟩, j4 24 (by decide), p]
              exact if_pos ⟨rfl, q⟩
            · rw [if_neg (fun z => q z.2), p, j5 i (by omega)]
              rfl
          · rw [if_neg (fun z => p z.1), j4 k p]
            exact if_neg (fun z => hk z.1)
        refine .mk1 (h.same (fun k hk => g5 k (by omega)) (fun k hk => fin k (by omega)) rfl rfl ?_)
        unfold am_Ot at g6 ⊢
        rw [fin 2 (by decide), fin 3 (by decide), fin 4 (by decide), fin 5 (by decide), fin 6 (by decide), fin 7 (by decide), fin 8 (by decide), fin 9 (by decide), fin 10 (by decide)]
        exact g6
      · rw [if_neg y, if_neg y]
        exact .noTen6 h
    · rw [if_neg b0, if_pos b0, if_neg b0]
      rcases h4 with q | q | q | q | q
      · exact absurd q b0
      · rw [q]
        exact .noTen2 h
      · rw [q]
        exact .noTen3 h
      · rw [q]
        exact .noTen4 h
      · rw [q]
        exact .noTen5 h
