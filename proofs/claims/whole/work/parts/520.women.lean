theorem left_sim {t : Nat} {I : am_mI} {J : am_mJ} {A : am_mI} {B : am_mJ} (h : am_Iv t I J A B) {X A1 : am_mI} (f : am_Wf I X A A1) {q : Nat} (hq : q < 4) {x : Int32} (ex : x.toInt = (q : Int)) : ∀ (k m : Nat) (r s : Int32), k ≤ 6 → r.toInt = (k : Int) - 1 → k < m → 0 ≤ s.toInt → s.toInt + am_sm A q k ≤ 100 →
    ∃ v : Int32, LX8_leftOf m A1 x s r = some v ∧ v.toInt = s.toInt + am_sm A q k := by
  have v0 : (0 : Int32).toInt = 0 := rfl
  intro k
  induction k with
  | zero =>
    intro m r s hk hr hm s0 s1
    obtain ⟨m, rfl⟩ : ∃ j, m = j + 1 := ⟨m - 1, by omega⟩
    have r0 : r < 0 := by
      rw [Int32.lt_iff_toInt_lt]
      omega
    rw [LX8_leftOf_s, if_pos r0]
    refine ⟨s, rfl, ?_⟩
    show s.toInt = s.toInt + ((0 : Nat) : Int)
    omega
  | succ k ih =>
    intro m r s hk hr hm s0 s1
    obtain ⟨m, rfl⟩ : ∃ j, m = j + 1 := ⟨m - 1, by omega⟩
    have r0 : ¬ r < 0 := by
      rw [Int32.lt_iff_toInt_lt]
      omega
    have hc : 4 * k + q < 24 := by omega
    obtain ⟨o1, -, -⟩ := openAs h f (a := (4 : Int32) * r + x) hc (cell_cr (by omega) hq (by omega) ex)
    obtain ⟨-, -, w, w1, -, w2⟩ := openAs h f (a := (4 : Int32) * r + x) hc (cell_cr (by omega) hq (by omega) ex)
    have es : am_sm A q (k + 1) = am_tk A (4 * k + q) + am_sm A q k := rfl
    rw [es] at s1 ⊢
    have rp := i32_pred (r := r) (by omega)
    rw [LX8_leftOf_s, if_neg r0, o1, Option.bind_some]
    by_cases z : am_tk A (4 * k + q) = 0
    · rw [if_pos z, if_pos rfl]
      obtain ⟨v, a1, a2⟩ := ih m (r + -1) s (by omega) (by rw [rp]; omega) (by omega) s0 (by omega)
      clear rp
      exact ⟨v, a1, by omega⟩
    · rw [if_neg z, if_neg (by decide), w2 z, Option.bind_some]
      have sw : (s + w).toInt = s.toInt + am_tk A (4 * k + q) := by
        clear rp
        rw [Int32.toInt_add, w1]
        exact Int.bmod_eq_of_le (by omega) (by omega)
      obtain ⟨v, a1, a2⟩ := ih m (r + -1) (s + w) (by omega) (by rw [rp]; omega) (by omega) (by rw [sw]; omega) (by rw [sw]; omega)
      rw [sw] at a2
      clear rp sw
      exact ⟨v, a1, by omega⟩
theorem leftAs {t : Nat} {I : am_mI} {J : am_mJ} {A : am_mI} {B : am_mJ} (h : am_Iv t I J A B) {X A1 : am_mI} (f : am_Wf I X A A1) {q : Nat} (hq : q < 4) {x : Int32} (ex : x.toInt = (q : Int)) {k : Nat} (hk : k ≤ 6) (e : (A1 21 q).toInt = (am_nx A q k : Int) - 1) : ∃ v : Int32, DX8_leftOf A1 x = some v ∧ v.toInt = am_sm A q k := by
  have g := col_in (x := x) (by omega) (by omega)
  have le := am_nx.le A q k
  have b := sm_le h hq (am_nx A q k) (by omega)
  have z : (0 : Int32).toInt = 0 := rfl
  obtain ⟨v, a1, a2⟩ := left_sim h f hq ex (am_nx A q k) am_FU (A1 21 q) 0 (by omega) e (by have : am_FU = 1000000 := rfl; omega) (by decide) (by omega)
  unfold DX8_leftOf
  rw [if_pos g, nat_of ex, a1]
  refine ⟨v, rfl, ?_⟩
  rw [a2, am_nx.sm, z]
  omega
/-- the fullest idle column -/
def am_Bs (X : am_mI) (b l : Int32) : Prop := (b = -1 ∧ l = 0) ∨ ∃ p : Nat, p < 4 ∧ b.toInt = (p : Int) ∧ X 37 p = -1 ∧ l = X 36 p ∧ 0 < (X 36 p).toInt
theorem full_sim {t : Nat} {I : am_mI} {J : am_mJ} {A : am_mI} {B : am_mJ} (h : am_Iv t I J A B) {X A1 : am_mI} (f : am_Wf I X A A1) {mI fr : Int32} {mm : Nat} (hc : ∀ p, p < 4 → am_Cl A X A1 mm (mm + 1) p) : ∀ (k m m2 q : Nat) (x b l : Int32), q + k = 4 → x.toInt = (q : Int) → k < m → am_Bs X b l → (∀ p, p < q → X 37 p = -1 → (X 36 p).toInt ≤ l.toInt) →
    ∃ b' l' : Int32, LX6_fullestIdleColumn m X b l x = some b' ∧ LX8_doneBy (m2 + k + 1) 4 A1 B 0 fr mI 0 b x = LX8_doneBy (m2 + 1) 4 A1 B 0 fr mI 0 b' 4 ∧ am_Bs X b' l' ∧ (∀ p, p < 4 → X 37 p = -1 → (X 36 p).toInt ≤ l'.toInt) := by
  have v0 : (0 : Int32).toInt = 0 := rfl
  have v4 : (4 : Int32).toInt = 4 := rfl
  have vn : (-1 : Int32).toInt = -1 := rfl
  intro k
  induction k with
  | zero =>
    intro m m2 q x b l hq ex hm hb hp
    obtain ⟨m, rfl⟩ : ∃ j, m = j + 1 := ⟨m - 1, by omega⟩
    have e4 : x = 4 := Int32.toInt_inj.mp (by omega)
    have z : (4 : Int32) ≤ x := by
      rw [Int32.le_iff_toInt_le]
      omega
    refine ⟨b, l, ?_, by rw [e4, Nat.add_zero], hb, fun p h4 => hp p (by omega)⟩
    rw [LX6_fullestIdleColumn_s, if_pos z]
  | succ k ih =>
    intro m m2 q x b l hq ex hm hb hp
    obtain ⟨m, rfl⟩ : ∃ j, m = j + 1 := ⟨m - 1, by omega⟩
    have q4 : q < 4 := by omega
    have z : ¬ (4 : Int32) ≤ x := by
      rw [Int32.le_iff_toInt_le]
      omega
    have g := col_in (x := x) (by omega) (by omega)
    have exq := nat_of ex
    have x1 := col_next (by omega) ex
    rw [LX6_fullestIdleColumn_s, if_neg z, show m2 + (k + 1) + 1 = (m2 + k + 1) + 1 from rfl, LX8_doneBy_s4, if_neg z]
    simp only [if_pos g]
    rw [exq]
    have l0 : 0 ≤ l.toInt := by
      rcases hb with ⟨-, e⟩ | ⟨p, -, -, -, e, e2⟩
      · rw [e]
        decide
      · rw [e]
        omega
    have skip : (X 37 q = -1 → (X 36 q).toInt ≤ l.toInt) → ∃ b' l' : Int32, LX6_fullestIdleColumn m X b l (x + 1) = some b' ∧ LX8_doneBy (m2 + k + 1) 4 A1 B 0 fr mI 0 b (x + 1) = LX8_doneBy (m2 + 1) 4 A1 B 0 fr mI 0 b' 4 ∧ am_Bs X b' l' ∧ (∀ p, p < 4 → X 37 p = -1 → (X 36 p).toInt ≤ l'.toInt) := fun w =>
      ih m m2 (q + 1) (x + 1) b l (by omega) x1 (by omega) hb (fun p h1 => by
        by_cases e : p = q
        · rw [e]
          exact w
        · exact hp p (by omega))
    rcases hc q q4 with ⟨j, h1, h2, h3, h4, h5, h6, h7⟩ | ⟨j, e, h1, h2, h3, h4, h5, h6, h7, h8, h9⟩
    · rw [if_neg (not_not_intro h4)]
      by_cases y : A1 21 q < 0
      · have yy := y
        rw [Int32.lt_iff_toInt_lt] at yy
        have s0 : (X 36 q).toInt = 0 := by
          rw [h3, am_nx.nil A q j (by omega)]
          rfl
        have le : X 36 q ≤ l := by
          rw [Int32.le_iff_toInt_le]
          omega
        rw [if_pos y, if_pos le]
        exact skip (fun _ => by omega)
      · have yy := y
        rw [Int32.lt_iff_toInt_lt] at yy
        have s0 : 0 < (X 36 q).toInt := by
          have := am_nx.pos A q j (by omega)
          omega
        rw [if_neg y, if_neg (not_not_intro h6)]
        have take : ∃ b' l' : Int32, LX6_fullestIdleColumn m X x (X 36 q) (x + 1) = some b' ∧ LX8_doneBy (m2 + k + 1) 4 A1 B 0 fr mI 0 x (x + 1) = LX8_doneBy (m2 + 1) 4 A1 B 0 fr mI 0 b' 4 ∧ am_Bs X b' l' ∧ (∀ p, p < 4 → X 37 p = -1 → (X 36 p).toInt ≤ l'.toInt) ∨ (X 36 q).toInt ≤ l.toInt := by
          by_cases w : (X 36 q).toInt ≤ l.toInt
          · exact ⟨0, 0, Or.inr w⟩
          · obtain ⟨b', l', a1, a2, a3, a4⟩ := ih m m2 (q + 1) (x + 1) x (X 36 q) (by omega) x1 (by omega) (Or.inr ⟨q, q4, ex, h4, rfl, s0⟩) (fun p h1 w1 => by
              by_cases e : p = q
              · rw [e]
                exact Int.le_refl _
              · have := hp p (by omega) w1
                omega)
            exact ⟨b', l', Or.inl ⟨a1, a2, a3, a4⟩⟩
        obtain ⟨b', l', tk | w⟩ := take
        · obtain ⟨a1, a2, a3, a4⟩ := tk
          by_cases w : X 36 q ≤ l
          · -- both keep the former best
            rw [if_pos w]
            rw [Int32.le_iff_toInt_le] at w
            rcases hb with ⟨e1, e2⟩ | ⟨p, p1, p2, p3, p4, p5⟩
            · rw [e2] at w
              omega
            · rw [if_neg (show ¬ b = -1 by intro e; rw [e] at p2; omega)]
              rcases hc p p1 with ⟨j', g1, g2, g3, g4, g5, g6, g7⟩ | ⟨j', e', g1, g2, g3, g4, g5, g6, g7, g8, g9⟩
              · obtain ⟨u, u1, u2⟩ := leftAs h f q4 ex h1 h5
                obtain ⟨v, v1, v2⟩ := leftAs h f p1 p2 g1 g5
                rw [u1, v1, Option.bind_some, Option.bind_some, if_pos (show u ≤ v by rw [Int32.le_iff_toInt_le]; rw [p4] at w; omega)]
                exact skip (fun _ => w)
              · rw [p3] at g6
                omega
          · rw [if_neg w]
            rw [Int32.le_iff_toInt_le] at w
            refine ⟨b', l', a1, ?_, a3, a4⟩
            rcases hb with ⟨e1, e2⟩ | ⟨p, p1, p2, p3, p4, p5⟩
            · rw [if_pos e1]
              exact a2
            · rw [if_neg (show ¬ b = -1 by intro e; rw [e] at p2; omega)]
              rcases hc p p1 with ⟨j', g1, g2, g3, g4, g5, g6, g7⟩ | ⟨j', e', g1, g2, g3, g4, g5, g6, g7, g8, g9⟩
              · obtain ⟨u, u1, u2⟩ := leftAs h f q4 ex h1 h5
                obtain ⟨v, v1, v2⟩ := leftAs h f p1 p2 g1 g5
                rw [u1, v1, Option.bind_some, Option.bind_some, if_neg (show ¬ u ≤ v by rw [Int32.le_iff_toInt_le]; rw [p4] at w; omega)]
                exact a2
              · rw [p3] at g6
                omega
        · rw [if_pos (show X 36 q ≤ l by rw [Int32.le_iff_toInt_le]; exact w)]
          rcases hb with ⟨e1, e2⟩ | ⟨p, p1, p2, p3, p4, p5⟩
          · rw [e2] at w
            omega
          · rw [if_neg (show ¬ b = -1 by intro e; rw [e] at p2; omega)]
            rcases hc p p1 with ⟨j', g1, g2, g3, g4, g5, g6, g7⟩ | ⟨j', e', g1, g2, g3, g4, g5, g6, g7, g8, g9⟩
            · obtain ⟨u, u1, u2⟩ := leftAs h f q4 ex h1 h5
              obtain ⟨v, v1, v2⟩ := leftAs h f p1 p2 g1 g5
              rw [u1, v1, Option.bind_some, Option.bind_some, if_pos (show u ≤ v by rw [Int32.le_iff_toInt_le]; rw [p4] at w; omega)]
              exact skip (fun _ => w)
            · rw [p3] at g6
              omega
    · have n1 : ¬ X 37 q = -1 := fun w => by
        rw [w] at h6
        omega
      have y : ¬ A1 21 q < 0 := by
        rw [Int32.lt_iff_toInt_lt]
        omega
      rw [if_pos n1, if_neg y, if_pos (show ¬ A1 23 q = 0 by rw [h8]; decide)]
      exact skip (fun w => absurd w n1)
/-- a woman takes the next cell of column q -/
theorem next_of {t : Nat} {I : am_mI} {J : am_mJ} {A : am_mI} {B : am_mJ} (h : am_Iv t I J A B) {X : am_mI} (f : am_Wf I X A A) {q : Nat} (hq : q < 4) {x mI : Int32} (ex : x.toInt = (q : Int)) : ∀ (k m : Nat) (r : Int32), k ≤ 6 → r.toInt = (k : Int) - 1 → k < m → am_nx A q k ≠ 0 →
    ∃ (u v : Int32), LX6_takeNextOf m X J 2 x mI r = some (0, am_upI (am_upI (am_upI X 35 q u) 36 q (X 36 q - v)) 37 q (mI + v), J) ∧ u.toInt = (am_nx A q k : Int) - 2 ∧ v.toInt = am_tk A (4 * (am_nx A q k - 1) + q) := by
  have v0 : (0 : Int32).toInt = 0 := rfl
  have v1 : (1 : Int32).toInt = 1 := rfl
  have g := col_in (x := x) (by omega) (by omega)
  have exq := nat_of ex
  intro k
  induction k with
  | zero =>
    intro m r hk hr hm hn
    exact absurd rfl hn
  | succ k ih =>
    intro m r hk hr hm hn
    obtain ⟨m, rfl⟩ : ∃ j, m = j + 1 := ⟨m - 1, by omega⟩
    have hc : 4 * k + q < 24 := by omega
    obtain ⟨-, o1, v, o2, o3, -⟩ := openAs h f (a := r * (4 : Int32) + x) hc (cell_rc (by omega) hq (by omega) ex)
    have r1 : (r - 1).toInt = (k : Int) - 1 := by
      rw [Int32.toInt_sub, v1, hr]
      rw [Int.bmod_eq_of_le (by omega) (by omega)]
      omega
    have here : am_tk A (4 * k + q) ≠ 0 → am_nx A q (k + 1) = k + 1 := fun z => if_neg z
    rw [LX6_takeNextOf_s]
    simp only [if_pos g]
    rw [o1, o3, exq, am_upI_ne (a := 36) (h := 35) (by decide)]
    simp only [Option.bind_some]
    by_cases r0 : r ≤ 0
    · rw [if_pos r0]
      rw [Int32.le_iff_toInt_le] at r0
      have k0 : k = 0 := by omega
      have z : am_tk A (4 * k + q) ≠ 0 := by
        intro z
        apply hn
        have : am_nx A q (k + 1) = am_nx A q k := if_pos z
        rw [this, k0]
        rfl
      rw [here z]
      refine ⟨r - 1, v, rfl, by rw [r1]; omega, ?_⟩
      rw [o2, Nat.add_sub_cancel]
    · rw [if_neg r0]
      by_cases z : am_tk A (4 * k + q) = 0
      · rw [if_pos z, if_neg (show ¬ ¬ (0 : Int32) = 0 from fun f => f rfl)]
        have e : am_nx A q (k + 1) = am_nx A q k := if_pos z
        rw [e] at hn ⊢
        clear r1
        exact ih m (r + -1) (by omega) (by rw [i32_pred (by omega)]; omega) (by omega) hn
      · rw [if_neg z, if_pos (show ¬ (1 : Int32) = 0 by decide), here z]
        refine ⟨r - 1, v, rfl, by rw [r1]; omega, ?_⟩
        rw [o2, Nat.add_sub_cancel]
