theorem left_sim {t : Nat} {I : am_mI} {J : am_mJ} {A : am_mI} {B : am_mJ} (h : am_Iv t I J A B) {X A1 : am_mI} (f : am_Wf I X A A1) {q : Nat} (hq : q < 4) {x : Int32} (ex : x.toInt = (q : Int)) : ∀ (k m : Nat) (r s : Int32), k ≤ 6 → r.toInt = (k : Int) - 1 → k < m → 0 ≤ s.toInt → s.toInt + am_sm A q k ≤ 100 →
    ∃ v : Int32, LX8_leftOf m A1 x s r = some v ∧ v.toInt = s.toInt + am_sm A q k := by
  have v0 : (0 : Int32).toInt = 0 := rfl
  intro k
  induction k with
  | zero =>
    intro m r s hk hr hm s0 s1
    obtain ⟨m, rfl⟩ : ∃ j, m = j + 1 := ⟨m - 1, by omega⟩
    have r0 : r < 0 := by
      rw [Int32.lt_iff_toInt_lt]
      omega
    rw [LX8_leftOf_s, if_pos r0]
    refine ⟨s, rfl, ?_⟩
    show s.toInt = s.toInt + ((0 : Nat) : Int)
    omega
  | succ k ih =>
    intro m r s hk hr hm s0 s1
    obtain ⟨m, rfl⟩ : ∃ j, m = j + 1 := ⟨m - 1, by omega⟩
    have r0 : ¬ r < 0 := by
      rw [Int32.lt_iff_toInt_lt]
      omega
    have hc : 4 * k + q < 24 := by omega
    obtain ⟨o1, -, -⟩ := openAs h f (a := (4 : Int32) * r + x) hc (cell_cr (by omega) hq (by omega) ex)
    obtain ⟨-, -, w, w1, -, w2⟩ := openAs h f (a := (4 : Int32) * r + x) hc (cell_cr (by omega) hq (by omega) ex)
    have es : am_sm A q (k + 1) = am_tk A (4 * k + q) + am_sm A q k := rfl
    rw [es] at s1 ⊢
    obtain ⟨r', er, rp⟩ : ∃ y : Int32, y = r + -1 ∧ y.toInt = r.toInt - 1 := ⟨_, rfl, i32_pred (by omega)⟩
    rw [LX8_leftOf_s, if_neg r0, o1, Option.bind_some, ← er]
    clear er
    by_cases z : am_tk A (4 * k + q) = 0
    · rw [if_pos z, if_pos rfl]
      obtain ⟨v, a1, a2⟩ := ih m r' s (by omega) (by omega) (by omega) s0 (by omega)
      exact ⟨v, a1, by omega⟩
    · rw [if_neg z, if_neg (by decide), w2 z, Option.bind_some]
      obtain ⟨y, ey, sw⟩ : ∃ y : Int32, y = s + w ∧ y.toInt = s.toInt + am_tk A (4 * k + q) := by
        refine ⟨_, rfl, ?_⟩
        rw [Int32.toInt_add, w1]
        exact Int.bmod_eq_of_le (by omega) (by omega)
      rw [← ey]
      clear ey
      obtain ⟨v, a1, a2⟩ := ih m r' y (by omega) (by omega) (by omega) (by omega) (by omega)
      exact ⟨v, a1, by omega⟩
theorem leftAs {t : Nat} {I : am_mI} {J : am_mJ} {A : am_mI} {B : am_mJ} (h : am_Iv t I J A B) {X A1 : am_mI} (f : am_Wf I X A A1) {q : Nat} (hq : q < 4) {x : Int32} (ex : x.toInt = (q : Int)) {k : Nat} (hk : k ≤ 6) (e : (A1 21 q).toInt = (am_nx A q k : Int) - 1) : ∃ v : Int32, DX8_leftOf A1 x = some v ∧ v.toInt = am_sm A q k := by
  have g := col_in (x := x) (by omega) (by omega)
  have le := am_nx.le A q k
  have b := sm_le h hq (am_nx A q k) (by omega)
  have z : (0 : Int32).toInt = 0 := rfl
  obtain ⟨v, a1, a2⟩ := left_sim h f hq ex (am_nx A q k) am_FU (A1 21 q) 0 (by omega) e (by have : am_FU = 1000000 := rfl; omega) (by decide) (by omega)
  unfold DX8_leftOf
  rw [if_pos g, nat_of ex, a1]
  refine ⟨v, rfl, ?_⟩
  rw [a2, am_nx.sm, z]
  omega
/-- the fullest idle column -/
def am_Bs (X : am_mI) (b l : Int32) : Prop := (b = -1 ∧ l = 0) ∨ ∃ p : Nat, p < 4 ∧ b.toInt = (p : Int) ∧ X 37 p = -1 ∧ l = X 36 p ∧ 0 < (X 36 p).toInt
theorem full_sim {t : Nat} {I : am_mI} {J : am_mJ} {A : am_mI} {B : am_mJ} (h : am_Iv t I J A B) {X A1 : am_mI} (f : am_Wf I X A A1) {mI fr : Int32} {mm : Nat} (hc : ∀ p, p < 4 → am_Cl A X A1 mm (mm + 1) p) : ∀ (k m m2 q : Nat) (x b l : Int32), q + k = 4 → x.toInt = (q : Int) → k < m → am_Bs X b l → (∀ p, p < q → X 37 p = -1 → (X 36 p).toInt ≤ l.toInt) →
    ∃ b' l' : Int32, LX6_fullestIdleColumn m X b l x = some b' ∧ LX8_doneBy (m2 + k + 1) 4 A1 B 0 fr mI 0 b x = LX8_doneBy (m2 + 1) 4 A1 B 0 fr mI 0 b' 4 ∧ am_Bs X b' l' ∧ (∀ p, p < 4 → X 37 p = -1 → (X 36 p).toInt ≤ l'.toInt) := by
  have v0 : (0 : Int32).toInt = 0 := rfl
  have v4 : (4 : Int32).toInt = 4 := rfl
  have vn : (-1 : Int32).toInt = -1 := rfl
  intro k
  induction k with
  | zero =>
    intro m m2 q x b l hq ex hm hb hp
    obtain ⟨m, rfl⟩ : ∃ j, m = j + 1 := ⟨m - 1, by omega⟩
    have e4 : x = 4 := Int32.toInt_inj.mp (by omega)
    have z : (4 : Int32) ≤ x := by
      rw [Int32.le_iff_toInt_le]
      omega
    refine ⟨b, l, ?_, by rw [e4, Nat.add_zero], hb, fun p h4 => hp p (by omega)⟩
    rw [LX6_fullestIdleColumn_s, if_pos z]
  | succ k ih =>
    intro m m2 q x b l hq ex hm hb hp
    obtain ⟨m, rfl⟩ : ∃ j, m = j + 1 := ⟨m - 1, by omega⟩
    have q4 : q < 4 := by omega
    have z : ¬ (4 : Int32) ≤ x := by
      rw [Int32.le_iff_toInt_le]
      omega
    have g := col_in (x := x) (by omega) (by omega)
    have exq := nat_of ex
    have x1 := col_next (by omega) ex
    rw [LX6_fullestIdleColumn_s, if_neg z, show m2 + (k + 1) + 1 = (m2 + k + 1) + 1 from rfl, LX8_doneBy_s4, if_neg z]
    simp only [if_pos g]
    rw [exq]
    have l0 : 0 ≤ l.toInt := by
      rcases hb with ⟨-, e⟩ | ⟨p, -, -, -, e, e2⟩
      · rw [e]
        decide
      · rw [e]
        omega
    have skip : (X 37 q = -1 → (X 36 q).toInt ≤ l.toInt) → ∃ b' l' : Int32, LX6_fullestIdleColumn m X b l (x + 1) = some b' ∧ LX8_doneBy (m2 + k + 1) 4 A1 B 0 fr mI 0 b (x + 1) = LX8_doneBy (m2 + 1) 4 A1 B 0 fr mI 0 b' 4 ∧ am_Bs X b' l' ∧ (∀ p, p < 4 → X 37 p = -1 → (X 36 p).toInt ≤ l'.toInt) := fun w =>
      ih m m2 (q + 1) (x + 1) b l (by omega) x1 (by omega) hb (fun p h1 => by
        by_cases e : p = q
        · rw [e]
          exact w
        · exact hp p (by omega))
    rcases hc q q4 with ⟨j, h1, h2, h3, h4, h5, h6, h7⟩ | ⟨j, e, h1, h2, h3, h4, h5, h6, h7, h8, h9⟩
    · rw [if_neg (not_not_intro h4)]
      by_cases y : A1 21 q < 0
      · have yy := y
        rw [Int32.lt_iff_toInt_lt] at yy
        have s0 : (X 36 q).toInt = 0 := by
          rw [h3, am_nx.nil A q j (by omega)]
          rfl
        have le : X 36 q ≤ l := by
          rw [Int32.le_iff_toInt_le]
          omega
        rw [if_pos y, if_pos le]
        exact skip (fun _ => by omega)
      · have yy := y
        rw [Int32.lt_iff_toInt_lt] at yy
        have s0 : 0 < (X 36 q).toInt := by
          have := am_nx.pos A q j (by omega)
          omega
        rw [if_neg y, if_neg (not_not_intro h6)]
        have take : ∃ b' l' : Int32, LX6_fullestIdleColumn m X x (X 36 q) (x + 1) = some b' ∧ LX8_doneBy (m2 + k + 1) 4 A1 B 0 fr mI 0 x (x + 1) = LX8_doneBy (m2 + 1) 4 A1 B 0 fr mI 0 b' 4 ∧ am_Bs X b' l' ∧ (∀ p, p < 4 → X 37 p = -1 → (X 36 p).toInt ≤ l'.toInt) ∨ (X 36 q).toInt ≤ l.toInt := by
          by_cases w : (X 36 q).toInt ≤ l.toInt
          · exact ⟨0, 0, Or.inr w⟩
          · obtain ⟨b', l', a1, a2, a3, a4⟩ := ih m m2 (q + 1) (x + 1) x (X 36 q) (by omega) x1 (by omega) (Or.inr ⟨q, q4, ex, h4, rfl, s0⟩) (fun p h1 w1 => by
              by_cases e : p = q
              · rw [e]
                exact Int.le_refl _
              · have := hp p (by omega) w1
                omega)
            exact ⟨b', l', Or.inl ⟨a1, a2, a3, a4⟩⟩
        obtain ⟨b', l', tk | w⟩ := take
        · obtain ⟨a1, a2, a3, a4⟩ := tk
          by_cases w : X 36 q ≤ l
          · -- both keep the former best
            rw [if_pos w]
            rw [Int32.le_iff_toInt_le] at w
            rcases hb with ⟨e1, e2⟩ | ⟨p, p1, p2, p3, p4, p5⟩
            · rw [e2] at w
              omega
            · rw [if_neg (show ¬ b = -1 by intro e; rw [e] at p2; omega)]
              rcases hc p p1 with ⟨j', g1, g2, g3, g4, g5, g6, g7⟩ | ⟨j', e', g1, g2, g3, g4, g5, g6, g7, g8, g9⟩
              · obtain ⟨u, u1, u2⟩ := leftAs h f q4 ex h1 h5
                obtain ⟨v, v1, v2⟩ := leftAs h f p1 p2 g1 g5
                rw [u1, v1, Option.bind_some, Option.bind_some, if_pos (show u ≤ v by rw [Int32.le_iff_toInt_le]; rw [p4] at w; omega)]
                exact skip (fun _ => w)
              · rw [p3] at g6
                omega
          · rw [if_neg w]
            rw [Int32.le_iff_toInt_le] at w
            refine ⟨b', l', a1, ?_, a3, a4⟩
            rcases hb with ⟨e1, e2⟩ | ⟨p, p1, p2, p3, p4, p5⟩
            · rw [if_pos e1]
              exact a2
            · rw [if_neg (show ¬ b = -1 by intro e; rw [e] at p2; omega)]
              rcases hc p p1 with ⟨j', g1, g2, g3, g4, g5, g6, g7⟩ | ⟨j', e', g1, g2, g3, g4, g5, g6, g7, g8, g9⟩
              · obtain ⟨u, u1, u2⟩ := leftAs h f q4 ex h1 h5
                obtain ⟨v, v1, v2⟩ := leftAs h f p1 p2 g1 g5
                rw [u1, v1, Option.bind_some, Option.bind_some, if_neg (show ¬ u ≤ v by rw [Int32.le_iff_toInt_le]; rw [p4] at w; omega)]
                exact a2
              · rw [p3] at g6
                omega
        · rw [if_pos (show X 36 q ≤ l by rw [Int32.le_iff_toInt_le]; exact w)]
          rcases hb with ⟨e1, e2⟩ | ⟨p, p1, p2, p3, p4, p5⟩
          · rw [e2] at w
            omega
          · rw [if_neg (show ¬ b = -1 by intro e; rw [e] at p2; omega)]
            rcases hc p p1 with ⟨j', g1, g2, g3, g4, g5, g6, g7⟩ | ⟨j', e', g1, g2, g3, g4, g5, g6, g7, g8, g9⟩
            · obtain ⟨u, u1, u2⟩ := leftAs h f q4 ex h1 h5
              obtain ⟨v, v1, v2⟩ := leftAs h f p1 p2 g1 g5
              rw [u1, v1, Option.bind_some, Option.bind_some, if_pos (show u ≤ v by rw [Int32.le_iff_toInt_le]; rw [p4] at w; omega)]
              exact skip (fun _ => w)
            · rw [p3] at g6
              omega
    · have n1 : ¬ X 37 q = -1 := fun w => by
        rw [w] at h6
        omega
      have y : ¬ A1 21 q < 0 := by
        rw [Int32.lt_iff_toInt_lt]
        omega
      rw [if_pos n1, if_neg y, if_pos (show ¬ A1 23 q = 0 by rw [h8]; decide)]
      exact skip (fun w => absurd w n1)
/-- a woman takes the next cell of column q -/
theorem next_of {t : Nat} {I : am_mI} {J : am_mJ} {A : am_mI} {B : am_mJ} (h : am_Iv t I J A B) {X : am_mI} (f : am_Wf I X A A) {q : Nat} (hq : q < 4) {x mI : Int32} (ex : x.toInt = (q : Int)) : ∀ (k m : Nat) (r : Int32), k ≤ 6 → r.toInt = (k : Int) - 1 → k < m → am_nx A q k ≠ 0 →
    ∃ (u v : Int32), LX6_takeNextOf m X J 2 x mI r = some (0, am_upI (am_upI (am_upI X 35 q u) 36 q (X 36 q - v)) 37 q (mI + v), J) ∧ u.toInt = (am_nx A q k : Int) - 2 ∧ v.toInt = am_tk A (4 * (am_nx A q k - 1) + q) := by
  have v0 : (0 : Int32).toInt = 0 := rfl
  have v1 : (1 : Int32).toInt = 1 := rfl
  have g := col_in (x := x) (by omega) (by omega)
  have exq := nat_of ex
  intro k
  induction k with
  | zero =>
    intro m r hk hr hm hn
    exact absurd rfl hn
  | succ k ih =>
    intro m r hk hr hm hn
    obtain ⟨m, rfl⟩ : ∃ j, m = j + 1 := ⟨m - 1, by omega⟩
    have hc : 4 * k + q < 24 := by omega
    obtain ⟨-, o1, v, o2, o3, -⟩ := openAs h f (a := r * (4 : Int32) + x) hc (cell_rc (by omega) hq (by omega) ex)
    have r1 : (r - 1).toInt = (k : Int) - 1 := by
      rw [Int32.toInt_sub, v1, hr]
      rw [Int.bmod_eq_of_le (by omega) (by omega)]
      omega
    have here : am_tk A (4 * k + q) ≠ 0 → am_nx A q (k + 1) = k + 1 := fun z => if_neg z
    rw [LX6_takeNextOf_s]
    simp only [if_pos g]
    rw [o1, o3, exq, am_upI_ne (a := 36) (h := 35) (by decide)]
    simp only [Option.bind_some]
    by_cases r0 : r ≤ 0
    · rw [if_pos r0]
      rw [Int32.le_iff_toInt_le] at r0
      have k0 : k = 0 := by omega
      have z : am_tk A (4 * k + q) ≠ 0 := by
        intro z
        apply hn
        have : am_nx A q (k + 1) = am_nx A q k := if_pos z
        rw [this, k0]
        rfl
      rw [here z]
      refine ⟨r - 1, v, rfl, by rw [r1]; omega, ?_⟩
      rw [o2, Nat.add_sub_cancel]
    · rw [if_neg r0]
      by_cases z : am_tk A (4 * k + q) = 0
      · rw [if_pos z, if_neg (show ¬ ¬ (0 : Int32) = 0 from fun f => f rfl)]
        have e : am_nx A q (k + 1) = am_nx A q k := if_pos z
        rw [e] at hn ⊢
        clear r1
        exact ih m (r + -1) (by omega) (by rw [i32_pred (by omega)]; omega) (by omega) hn
      · rw [if_neg z, if_pos (show ¬ (1 : Int32) = 0 by decide), here z]
        refine ⟨r - 1, v, rfl, by rw [r1]; omega, ?_⟩
        rw [o2, Nat.add_sub_cancel]
/-- one woman takes column q -/
theorem take_one {t : Nat} {I : am_mI} {J : am_mJ} {A : am_mI} {B : am_mJ} (h : am_Iv t I J A B) {X A1 : am_mI} (f : am_Wf I X A A1) {mI : Int32} {mm : Nat} (em : mI.toInt = (mm : Int)) (hmm : mm ≤ 240) {q : Nat} (hq : q < 4) {x : Int32} (ex : x.toInt = (q : Int)) (hc : ∀ p, p < 4 → am_Cl A X A1 mm (mm + 1) p) (hi : X 37 q = -1) (hp : 0 < (X 36 q).toInt) :
    ∃ X' : am_mI, DX6_takeNextOf X J 2 x mI = some (0, X', J) ∧ am_Wf I X' A (am_upI A1 23 q 1) ∧ (∀ p, p < 4 → am_Cl A X' (am_upI A1 23 q 1) mm (mm + 1) p) ∧ am_s4 (am_w1 X') = am_s4 (am_w1 X) + 1 ∧ am_s4 (am_w2 X' mm) = am_s4 (am_w2 X mm) := by
  have g := col_in (x := x) (by omega) (by omega)
  have exq := nat_of ex
  have v4 : (4 : Int32).toInt = 4 := rfl
  have v0 : (0 : Int32).toInt = 0 := rfl
  rcases hc q hq with ⟨k, h1, h2, h3, h4, h5, h6, h7⟩ | ⟨j, e, h1, h2, h3, h4, h5, h6, h7, h8, h9⟩
  · have nz : am_nx A q k ≠ 0 := fun z => by
      have := am_nx.nil A q k z
      omega
    obtain ⟨j, ej⟩ : ∃ j, am_nx A q k = j + 1 := ⟨am_nx A q k - 1, by omega⟩
    have le := am_nx.le A q k
    have fX : am_Wf I X A A := ⟨f.1, fun _ _ => rfl⟩
    obtain ⟨u, v, t1, t2, t3⟩ := next_of h (J := J) fX hq (mI := mI) ex k am_FU (X 35 q) h1 h2 (by have : am_FU = 1000000 := rfl; omega) nz
    have tk1 := am_nx.on A q k j ej
    have tk2 := (h.tk (c := 4 * j + q) (by omega)).1
    have esm : am_sm A q k = am_tk A (4 * j + q) + am_sm A q j := by
      rw [← am_nx.sm A q k, ej]
      rfl
    have bsm := sm_le h hq k h1
    rw [ej] at t2 t3 h5 h7
    rw [Nat.add_sub_cancel] at t3 h7
    have r36 : (X 36 q - v).toInt = am_sm A q j := by
      rw [Int32.toInt_sub, h3, t3, esm]
      rw [Int.bmod_eq_of_le (by omega) (by omega)]
      omega
    have r37 : (mI + v).toInt = ((mm + am_tk A (4 * j + q) : Nat) : Int) := by
      clear r36
      rw [Int32.toInt_add, em, t3]
      rw [Int.bmod_eq_of_le (by omega) (by omega)]
      omega
    refine ⟨am_upI (am_upI (am_upI X 35 q u) 36 q (X 36 q - v)) 37 q (mI + v), ?_, ?_, ?_, ?_, ?_⟩
    · clear r36 r37
      unfold DX6_takeNextOf
      rw [if_neg (show ¬ x < 0 by rw [Int32.lt_iff_toInt_lt]; omega), if_pos (show x < 4 by rw [Int32.lt_iff_toInt_lt]; omega), if_pos g, exq]
      exact t1
    · exact (((f.x (by decide)).x (by decide)).x (by decide)).m (by decide)
    · intro p hp4
      by_cases e : p = q
      · subst e
        refine Or.inr ⟨j, mm + am_tk A (4 * j + p), by omega, by omega, by omega, ?_, ?_, ?_, ?_, am_upI_yes, ?_⟩
        · clear r36 r37
          rw [am_upI_ne (a := 35) (by decide), am_upI_ne (a := 35) (by decide), am_upI_yes, t2]
          omega
        · rw [am_upI_ne (a := 36) (by decide), am_upI_yes]
          exact r36
        · rw [am_upI_yes]
          exact r37
        · clear r36 r37
          rw [am_upI_ne (a := 21) (by decide), h5]
          omega
        · clear r36 r37
          rw [am_upI_ne (a := 22) (by decide), h7 (by omega)]
          omega
      · refine (hc p hp4).cong ?_ ?_ ?_ ?_ ?_ ?_
        · rw [am_upI_ne (a := 35) (by decide), am_upI_ne (a := 35) (by decide), am_upI_no e]
        · rw [am_upI_ne (a := 36) (by decide), am_upI_no e, am_upI_ne (a := 36) (by decide)]
        · rw [am_upI_no e, am_upI_ne (a := 37) (by decide), am_upI_ne (a := 37) (by decide)]
        · rw [am_upI_ne (a := 21) (by decide)]
        · rw [am_upI_ne (a := 22) (by decide)]
        · rw [am_upI_no e]
    · rw [am_s4.one (g := am_w1 X) hq (fun p hp => by
        unfold am_w1
        rw [am_upI_no hp, am_upI_ne (a := 37) (by decide), am_upI_ne (a := 37) (by decide)])]
      have a2 : am_w1 X q = 0 := if_pos h4
      have a1 : am_w1 (am_upI (am_upI (am_upI X 35 q u) 36 q (X 36 q - v)) 37 q (mI + v)) q = 1 := by
        unfold am_w1
        rw [am_upI_yes, if_neg]
        intro y
        rw [y] at r37
        have : (-1 : Int32).toInt = -1 := rfl
        clear r36
        omega
      clear r36 r37
      omega
    · rw [am_s4.one (g := am_w2 X mm) hq (fun p hp => by
        unfold am_w2
        rw [am_upI_no hp, am_upI_ne (a := 37) (by decide), am_upI_ne (a := 37) (by decide), am_upI_ne (a := 36) (by decide), am_upI_no hp, am_upI_ne (a := 36) (by decide)])]
      have a2 : am_w2 X mm q = am_sm A q k := by
        unfold am_w2
        rw [if_pos h4, h3, Int.add_zero]
      have a1 : am_w2 (am_upI (am_upI (am_upI X 35 q u) 36 q (X 36 q - v)) 37 q (mI + v)) mm q = am_sm A q j + am_tk A (4 * j + q) := by
        unfold am_w2
        rw [am_upI_yes, if_neg, am_upI_ne (a := 36) (by decide), am_upI_yes, r36, r37]
        · clear r36 r37
          omega
        · intro y
          rw [y] at r37
          have : (-1 : Int32).toInt = -1 := rfl
          clear r36
          omega
      clear r36 r37
      omega
  · exfalso
    rw [hi] at h6
    have : (-1 : Int32).toInt = -1 := rfl
    omega
theorem take_sim {t : Nat} {I : am_mI} {J : am_mJ} {A : am_mI} {B : am_mJ} (h : am_Iv t I J A B) {mI : Int32} {mm : Nat} (em : mI.toInt = (mm : Int)) (hmm : mm ≤ 240) {F : Int32} (hF : F.toInt ≤ 100) : ∀ (k m m2 : Nat) (tk fr : Int32) (X A1 : am_mI), tk.toInt + k = F.toInt → fr.toInt = (k : Int) → k < m → 0 ≤ tk.toInt → am_Wf I X A A1 → (∀ p, p < 4 → am_Cl A X A1 mm (mm + 1) p) →
    ∃ (tk' fr' : Int32) (X' A2 : am_mI) (m3 : Nat), m2 ≤ m3 ∧ LX6_takeCells m X J 2 mI F tk = some (tk', X', J) ∧ LX8_doneBy (m2 + 6 * k + 7) 3 A1 B 0 fr mI 0 0 0 = LX8_doneBy m3 5 A2 B 0 fr' mI 0 0 0 ∧ am_Wf I X' A A2 ∧ (∀ p, p < 4 → am_Cl A X' A2 mm (mm + 1) p) ∧
      tk.toInt ≤ tk'.toInt ∧ fr'.toInt = F.toInt - tk'.toInt ∧ 0 ≤ fr'.toInt ∧ am_s4 (am_w1 X') - tk'.toInt = am_s4 (am_w1 X) - tk.toInt ∧ am_s4 (am_w2 X' mm) = am_s4 (am_w2 X mm) ∧ A2 21 = A1 21 ∧ (0 < fr'.toInt → ∀ p, p < 4 → X' 37 p = -1 → (X' 36 p).toInt ≤ 0) := by
  have v0 : (0 : Int32).toInt = 0 := rfl
  have v4 : (4 : Int32).toInt = 4 := rfl
  have vn : (-1 : Int32).toInt = -1 := rfl
  intro k
  induction k with
  | zero =>
    intro m m2 tk fr X A1 ht hfr hm t0 f hc
    obtain ⟨m, rfl⟩ : ∃ j, m = j + 1 := ⟨m - 1, by omega⟩
    refine ⟨tk, fr, X, A1, m2 + 6, by omega, ?_, ?_, f, hc, Int.le_refl _, by omega, by omega, rfl, rfl, rfl, fun z => by omega⟩
    · rw [LX6_takeCells_s, if_pos (show F ≤ tk by rw [Int32.le_iff_toInt_le]; omega)]
    · rw [show m2 + 6 * 0 + 7 = (m2 + 6) + 1 from rfl, LX8_doneBy_s3, if_pos (show fr ≤ 0 by rw [Int32.le_iff_toInt_le]; omega)]
  | succ k ih =>
    intro m m2 tk fr X A1 ht hfr hm t0 f hc
    obtain ⟨m, rfl⟩ : ∃ j, m = j + 1 := ⟨m - 1, by omega⟩
    obtain ⟨b, l, b1, b2, b3, b4⟩ := full_sim h f (mI := mI) (fr := fr) hc 4 am_FU (m2 + 6 * k + 7) 0 0 (-1) 0 (by decide) (by decide) (by decide) (Or.inl ⟨rfl, rfl⟩) (fun p hp => by omega)
    rw [show m2 + 6 * (k + 1) + 7 = (m2 + 6 * k + 7 + 4 + 1) + 1 by omega, LX8_doneBy_s3, if_neg (show ¬ fr ≤ 0 by rw [Int32.le_iff_toInt_le]; omega), b2, LX8_doneBy_s4, if_pos (show (4 : Int32) ≤ 4 by decide), LX6_takeCells_s, if_neg (show ¬ F ≤ tk by rw [Int32.le_iff_toInt_le]; omega)]
    unfold DX6_fullestIdleColumn
    rw [b1, Option.bind_some]
    rcases b3 with ⟨e1, e2⟩ | ⟨q, p1, p2, p3, p4, p5⟩
    · rw [if_neg (not_not_intro e1), if_neg (not_not_intro e1)]
      refine ⟨tk, fr, X, A1, m2 + 6 * k + 7, by omega, rfl, rfl, f, hc, Int.le_refl _, by omega, by omega, rfl, rfl, rfl, fun _ p hp hi => ?_⟩
      have := b4 p hp hi
      rw [e2] at this
      omega
    · have nb : ¬ b = -1 := fun e => by
        rw [e] at p2
        omega
      obtain ⟨X', n1, n2, n3, n4, n5⟩ := take_one h f em hmm p1 p2 hc p3 p5
      obtain ⟨fr2, er, rp⟩ : ∃ y : Int32, y = fr + -1 ∧ y.toInt = fr.toInt - 1 := ⟨_, rfl, i32_pred (by omega)⟩
      obtain ⟨tk2, et, tp⟩ : ∃ y : Int32, y = tk + 1 ∧ y.toInt = tk.toInt + 1 := ⟨_, rfl, i32_succ (n := 200) (by omega) (by omega) (by omega)⟩
      rw [if_pos nb, if_pos nb, n1, Option.bind_some, if_pos (col_in (x := b) (by omega) (by omega)), nat_of p2, ← er]
      dsimp only
      rw [← et]
      clear er et
      obtain ⟨tk', fr', X2, A2, m3, r1, r2, r3, r4, r5, r6, r7, r8, r9, r10, r11, r12⟩ := ih m m2 tk2 fr2 X' (am_upI A1 23 q 1) (by omega) (by omega) (by omega) (by omega) n2 n3
      exact ⟨tk', fr', X2, A2, m3, r1, r2, r3, r4, r5, by omega, r7, r8, by omega, r10.trans n5, r11.trans (am_upI_ne (by decide)), r12⟩
/-- a minute goes by for those at work -/
theorem tick_sim {t : Nat} {I : am_mI} {J : am_mJ} {A : am_mI} {B : am_mJ} (h : am_Iv t I J A B) {X : am_mI} {mI fr : Int32} {mm : Nat} (hmm : mm ≤ 240) : ∀ (k m2 q : Nat) (x : Int32) (A1 : am_mI), q + k = 4 → x.toInt = (q : Int) → am_Wf I X A A1 → (∀ p, p < 4 → am_Cl A X A1 (if p < q then mm + 1 else mm) (mm + 1) p) →
    ∃ A2 : am_mI, LX8_doneBy (m2 + k + 1) 5 A1 B 0 fr mI 0 x 0 = LX8_doneBy m2 1 A2 B 0 fr (mI + 1) 0 0 0 ∧ am_Wf I X A A2 ∧ (∀ p, p < 4 → am_Cl A X A2 (mm + 1) (mm + 1) p) := by
  have v0 : (0 : Int32).toInt = 0 := rfl
  have v1 : (1 : Int32).toInt = 1 := rfl
  have v4 : (4 : Int32).toInt = 4 := rfl
  intro k
  induction k with
  | zero =>
    intro m2 q x A1 hq ex f hc
    refine ⟨A1, ?_, f, fun p hp => ?_⟩
    · rw [LX8_doneBy_s5, if_pos (show (4 : Int32) ≤ x by rw [Int32.le_iff_toInt_le]; omega)]
    · have := hc p hp
      rw [if_pos (by omega)] at this
      exact this
  | succ k ih =>
    intro m2 q x A1 hq ex f hc
    have q4 : q < 4 := by omega
    have z : ¬ (4 : Int32) ≤ x := by
      rw [Int32.le_iff_toInt_le]
      omega
    have g := col_in (x := x) (by omega) (by omega)
    have exq := nat_of ex
    have x1 := col_next (by omega) ex
    rw [show m2 + (k + 1) + 1 = (m2 + k + 1) + 1 from rfl, LX8_doneBy_s5, if_neg z]
    simp only [if_pos g]
    rw [exq]
    have hcq := hc q q4
    rw [if_neg (Nat.lt_irrefl q)] at hcq
    have keep : ∀ A2 : am_mI, (∀ p, p ≠ q → am_Cl A X A2 (if p < q then mm + 1 else mm) (mm + 1) p ∨ ¬ p < 4) → am_Cl A X A2 (mm + 1) (mm + 1) q → ∀ p, p < 4 → am_Cl A X A2 (if p < q + 1 then mm + 1 else mm) (mm + 1) p := by
      intro A2 h1 h2 p hp
      by_cases e : p = q
      · rw [e, if_pos (by omega)]
        exact h2
      · rcases h1 p e with w | w
        · by_cases c : p < q
          · rw [if_pos c] at w
            rw [if_pos (by omega)]
            exact w
          · rw [if_neg c] at w
            rw [if_neg (by omega)]
            exact w
        · exact absurd hp w
    rcases hcq with ⟨j, h1, h2, h3, h4, h5, h6, h7⟩ | ⟨j, e, h1, h2, h3, h4, h5, h6, h7, h8, h9⟩
    · have nx := ih m2 (q + 1) (x + 1) A1 (by omega) x1 f (keep A1 (fun p hp => by
        by_cases c : p < 4
        · exact Or.inl (hc p c)
        · exact Or.inr c) (Or.inl ⟨j, h1, h2, h3, h4, h5, h6, h7⟩))
      by_cases y : A1 21 q < 0
      · rw [if_pos y]
        exact nx
      · rw [if_neg y, if_pos (show ¬ A1 23 q = 1 by rw [h6]; decide)]
        exact nx
    · have y : ¬ A1 21 q < 0 := by
        rw [Int32.lt_iff_toInt_lt]
        omega
      have e22 : (A1 22 q - 1).toInt = (e : Int) - ((mm + 1 : Nat) : Int) := by
        rw [Int32.toInt_sub, h9, v1]
        rw [Int.bmod_eq_of_le (by omega) (by omega)]
        omega
      rw [if_neg y, if_neg (show ¬ ¬ A1 23 q = 1 by rw [h8]; exact fun f => f rfl)]
      refine ih m2 (q + 1) (x + 1) _ (by omega) x1 (f.m (by decide)) (keep _ (fun p hp => ?_) ?_)
      · by_cases c : p < 4
        · exact Or.inl ((hc p c).cong rfl rfl rfl (by rw [am_upI_ne (a := 21) (by decide)]) (by rw [am_upI_no hp]) (by rw [am_upI_ne (a := 23) (by decide)]))
        · exact Or.inr c
      · refine Or.inr ⟨j, e, h1, h2, h3, h4, h5, h6, ?_, ?_, ?_⟩
        · rw [am_upI_ne (a := 21) (by decide)]
          exact h7
        · rw [am_upI_ne (a := 23) (by decide)]
          exact h8
        · rw [am_upI_yes]
          exact e22
theorem w1_nn (X : am_mI) : ∀ q, q < 4 → 0 ≤ am_w1 X q := by
  intro q _
  unfold am_w1
  split <;> omega
theorem w2_nn {A X A1 : am_mI} {mm lo : Nat} (hl : mm ≤ lo) (hc : ∀ p, p < 4 → am_Cl A X A1 mm lo p) : ∀ q, q < 4 → 0 ≤ am_w2 X mm q := by
  intro q hq
  have vn : (-1 : Int32).toInt = -1 := rfl
  unfold am_w2
  rcases hc q hq with ⟨k, h1, h2, h3, h4, h5, h6, h7⟩ | ⟨j, e, h1, h2, h3, h4, h5, h6, h7, h8, h9⟩
  · rw [if_pos h4]
    omega
  · rw [if_neg (fun y => by rw [y] at h6; omega)]
    omega
theorem all_low {A X A1 : am_mI} {mm lo : Nat} (hc : ∀ p, p < 4 → am_Cl A X A1 mm lo p) (hl : ∀ p, p < 4 → A1 21 p < 0) : am_s4 (am_w1 X) = 0 := by
  have e : ∀ p, p < 4 → am_w1 X p = 0 := by
    intro p hp
    rcases cl_low (hc p hp) with ⟨-, b, -⟩ | ⟨a, -⟩
    · exact if_pos b
    · exact absurd (hl p hp) a
  unfold am_s4
  rw [e 0 (by decide), e 1 (by decide), e 2 (by decide), e 3 (by decide)]
  rfl
theorem w2_tick (X : am_mI) (mm : Nat) : am_s4 (am_w2 X (mm + 1)) = am_s4 (am_w2 X mm) - am_s4 (am_w1 X) := by
  rw [← am_s4.sub]
  apply am_s4.cong
  intro q _
  unfold am_w2 am_w1
  by_cases c : X 37 q = -1
  · rw [if_pos c, if_pos c, if_pos c]
    omega
  · rw [if_neg c, if_neg c, if_neg c]
    omega
theorem work_sim {t : Nat} {I : am_mI} {J : am_mJ} {A : am_mI} {B : am_mJ} (h : am_Iv t I J A B) {w : Int32} (hw : 1 ≤ w.toInt ∧ w.toInt ≤ 6) : ∀ (k m m2 mm : Nat) (mI fr : Int32) (X A1 : am_mI), mm + k = 241 → mI.toInt = (mm : Int) → k < m → 60 * k < m2 → am_Wf I X A A1 → (∀ p, p < 4 → am_Cl A X A1 mm mm p) → 0 ≤ fr.toInt → fr.toInt + am_s4 (am_w1 X) = w.toInt → am_s4 (am_w2 X mm) + mm ≤ 240 →
    ∃ (r : Int32) (X' A2 : am_mI), LX6_lastMinute m X J 2 w fr mI = some (r, X', J) ∧ LX8_doneBy m2 1 A1 B 0 fr mI 0 0 0 = some (r, A2, B) ∧ am_Wf I X' A A2 := by
  have v0 : (0 : Int32).toInt = 0 := rfl
  have v240 : (240 : Int32).toInt = 240 := rfl
  have fU : am_FU = 1000000 := rfl
  intro k
  induction k with
  | zero =>
    intro m m2 mm mI fr X A1 hk em hm hm2 f hc f0 f1 f2
    have := am_s4.nn (w2_nn (Nat.le_refl mm) hc)
    omega
  | succ k ih =>
    intro m m2 mm mI fr X A1 hk em hm hm2 f hc f0 f1 f2
    obtain ⟨m, rfl⟩ : ∃ j, m = j + 1 := ⟨m - 1, by omega⟩
    obtain ⟨m2, rfl⟩ : ∃ j, m2 = j + 60 := ⟨m2 - 60, by omega⟩
    have n2 := am_s4.nn (w2_nn (Nat.le_refl mm) hc)
    have n1 := am_s4.nn (w1_nn X)
    have mm240 : mm ≤ 240 := by omega
    obtain ⟨s, fr1, lf, X1, A2, a1, a2, a3, a4, a5, a6, a7, a8, a9, a10, -, a12, a13⟩ := finish_sim h em (by omega) 4 am_FU (m2 + 54) 0 0 0 fr 0 X A1 (by decide) (by decide) (by decide) f (fun p hp => by rw [if_neg (by omega)]; exact hc p hp) (by decide) (by decide) f0 (by omega) (Or.inl rfl)
    have F : ∃ y : Int32, y = fr + s ∧ y.toInt = fr.toInt + s.toInt := by
      refine ⟨_, rfl, ?_⟩
      rw [Int32.toInt_add]
      exact Int.bmod_eq_of_le (by omega) (by omega)
    obtain ⟨F, eF, tF⟩ := F
    have eF1 : fr1 = F := Int32.toInt_inj.mp (by omega)
    have nX1 := am_s4.nn (w1_nn X1)
    obtain ⟨tk, fr2, X2, A3, m3, b1, b2, b3, b4, b5, b6, b7, b8, b9, b10, b11, b12⟩ := take_sim h em mm240 (F := F) (by omega) F.toInt.toNat am_FU (m2 + 54 - 6 * F.toInt.toNat - 7) 0 F X1 A2 (by omega) (by omega) (by omega) (by decide) a3 a4
    rw [show m2 + 54 - 6 * F.toInt.toNat - 7 + 6 * F.toInt.toNat + 7 = m2 + 54 by omega] at b3
    have R : ∃ y : Int32, y = F - tk ∧ y.toInt = F.toInt - tk.toInt := by
      refine ⟨_, rfl, ?_⟩
      rw [Int32.toInt_sub]
      exact Int.bmod_eq_of_le (by omega) (by omega)
    obtain ⟨R, eR, tR⟩ := R
    have eR1 : fr2 = R := Int32.toInt_inj.mp (by omega)
    have nX2 := am_s4.nn (w1_nn X2)
    unfold LX6_lastMinute DX6_finish DX6_takeCells
    rw [if_neg (show ¬ (240 : Int32) < mI by rw [Int32.lt_iff_toInt_lt]; omega), a1, Option.bind_some]
    dsimp only
    rw [← eF, b2, Option.bind_some]
    dsimp only
    rw [← eR]
    clear eF eR
    rw [show m2 + 60 = (m2 + 54 + 4 + 1) + 1 from rfl, LX8_doneBy_s1, a2, LX8_doneBy_s2, if_pos (show (4 : Int32) ≤ 4 by decide), eF1, b3]
    rcases a10 with l0 | l1
    · obtain ⟨-, low⟩ := a12 l0
      have z1 := all_low a4 (fun p hp => low p (Nat.zero_le p) hp)
      have z2 := all_low b5 (fun p hp => by rw [b11]; exact low p (Nat.zero_le p) hp)
      rw [if_neg (not_not_intro l0), if_neg (show ¬ R < w by rw [Int32.lt_iff_toInt_lt]; omega)]
      exact ⟨mI, X2, A2, rfl, rfl, ⟨b4.1, a3.2⟩⟩
    · have lne : ¬ lf = 0 := by
        rw [l1]
        decide
      obtain ⟨p, -, p4, pn⟩ : ∃ p, 0 ≤ p ∧ p < 4 ∧ ¬ A2 21 p < 0 := by
        rcases a13 l1 with y | y
        · exact absurd y (by decide)
        · exact y
      have one : 1 ≤ am_s4 (am_w1 X2) := by
        by_cases c : 1 ≤ am_s4 (am_w1 X2)
        · exact c
        · exfalso
          have z : am_s4 (am_w1 X2) = 0 := by omega
          have zp := am_s4.zero (w1_nn X2) z p p4
          have idle : X2 37 p = -1 := by
            by_cases y : X2 37 p = -1
            · exact y
            · unfold am_w1 at zp
              rw [if_neg y] at zp
              omega
          have le := b12 (by omega) p p4 idle
          rcases cl_low (b5 p p4) with ⟨y, -⟩ | ⟨-, y⟩
          · rw [b11] at y
            exact pn y
          · have := y idle
            omega
      rw [if_pos lne, if_pos (show R < w by rw [Int32.lt_iff_toInt_lt]; omega), eR1]
      obtain ⟨m4, rfl⟩ : ∃ j, m3 = j + 4 + 1 := ⟨m3 - 5, by omega⟩
      obtain ⟨A4, c1, c2, c3⟩ := tick_sim h (mI := mI) (fr := R) mm240 4 m4 0 0 A3 (by decide) (by decide) b4 (fun p hp => by rw [if_neg (by omega)]; exact b5 p hp)
      have M : ∃ y : Int32, y = mI + 1 ∧ y.toInt = ((mm + 1 : Nat) : Int) := by
        refine ⟨_, rfl, ?_⟩
        rw [i32_succ (n := 1000) (by omega) (by omega) (by omega)]
        omega
      obtain ⟨M, eM, tM⟩ := M
      rw [c1, ← eM]
      clear eM
      have tick := w2_tick X2 mm
      exact ih m m4 (mm + 1) M R X2 A4 (by omega) tM (by omega) (by omega) c2 c3 (by omega) (by omega) (by omega)
theorem workAs {t : Nat} {I : am_mI} {J : am_mJ} {A : am_mI} {B : am_mJ} (h : am_Iv t I J A B) {w : Int32} (hw : 1 ≤ w.toInt ∧ w.toInt ≤ 6) : ∃ (r : Int32) (I1 A1 : am_mI), DX6_lastMinute I J 2 w = some (r, I1, J) ∧ DX8_doneBy A B w = some (r, A1, B) ∧ am_Iv t I1 J A1 B := by
  have fU : am_FU = 1000000 := rfl
  have f0 : am_Wf I I A A := ⟨fun _ _ => rfl, fun _ _ => rfl⟩
  obtain ⟨X, x1, x2, x3⟩ := begin_sim h (J := J) 4 (am_FU - 33) 0 0 I (by decide) (by decide) f0 (fun p hp => by omega)
  rw [show am_FU - 33 + 8 * 4 + 1 = am_FU by omega] at x1
  obtain ⟨A1, y1, y2, y3⟩ := mbegin_sim h (B := B) (w := w) 4 (am_FU - 5) 0 0 A (by decide) (by decide) f0 (fun p hp => by omega)
  rw [show am_FU - 5 + 4 + 1 = am_FU by omega] at y1
  have v5 : (5 : Int32).toInt = 5 := rfl
  have cl : ∀ p, p < 4 → am_Cl A X A1 0 0 p := fun p hp => Or.inl ⟨6, by decide, by rw [(x3 p hp).1]; rfl, (x3 p hp).2.2, (x3 p hp).2.1, (y3 p hp).1, (y3 p hp).2.1, (y3 p hp).2.2⟩
  have w1 : ∀ p, p < 4 → am_w1 X p = 0 := fun p hp => if_pos (x3 p hp).2.1
  have w2 : ∀ p, p < 4 → am_w2 X 0 p ≤ 60 := by
    intro p hp
    unfold am_w2
    have := sm_le h hp 6 (by decide)
    rw [if_pos (x3 p hp).2.1, (x3 p hp).2.2]
    omega
  have s1 : am_s4 (am_w1 X) = 0 := by
    unfold am_s4
    rw [w1 0 (by decide), w1 1 (by decide), w1 2 (by decide), w1 3 (by decide)]
    rfl
  have s2 : am_s4 (am_w2 X 0) ≤ 240 := by
    have := w2 0 (by decide)
    have := w2 1 (by decide)
    have := w2 2 (by decide)
    have := w2 3 (by decide)
    unfold am_s4
    omega
  obtain ⟨r, X', A2, r1, r2, r3⟩ := work_sim h (J := J) (B := B) hw 241 am_FU (am_FU - 5) 0 0 w X A1 (by decide) (by decide) (by decide) (by omega) ⟨x2.1, y2.2⟩ cl (by omega) (by omega) (by omega)
  refine ⟨r, X', A2, ?_, ?_, h.wf r3⟩
  · unfold DX6_lastMinute DX6_begin
    rw [x1, Option.bind_some]
    exact r1
  · unfold DX8_doneBy
    rw [y1]
    exact r2
theorem op_done {t : Nat} {I : am_mI} {J : am_mJ} {A : am_mI} {B : am_mJ} (h : am_Iv t I J A B) (w : Int32) : am_Tw (t + 20000) (DX7_done I J w) (DX8_done A B w) := by
  unfold DX7_done DX8_done
  by_cases c0 : w < (1 : Int32)
  · rw [if_pos c0, if_pos c0]
    exact .no6 h
  · rw [if_neg c0, if_neg c0]
    by_cases c1 : w ≤ (6 : Int32)
    · have c2 : ¬ (6 : Int32) < w := by ((try simp only [Int32.lt_iff_toInt_lt, Int32.le_iff_toInt_le, Int32.reduceToInt, ← Int32.toNat_toInt, ← Int32.toInt_inj] at *) <;> omega)
      have hw : 1 ≤ w.toInt ∧ w.toInt ≤ 6 := by ((try simp only [Int32.lt_iff_toInt_lt, Int32.le_iff_toInt_le, Int32.reduceToInt, ← Int32.toNat_toInt, ← Int32.toInt_inj] at *) <;> omega)
      obtain ⟨r, I1, A1, r1, r2, r3⟩ := workAs h hw
      rw [if_pos c1, if_neg c2, r1, r2, Option.bind_some, Option.bind_some]
      exact .mk1 r3
    · have c2 : (6 : Int32) < w := by ((try simp only [Int32.lt_iff_toInt_lt, Int32.le_iff_toInt_le, Int32.reduceToInt, ← Int32.toNat_toInt, ← Int32.toInt_inj] at *) <;> omega)
      rw [if_neg c1, if_pos c2]
      exact .no6 h
theorem women_sim {n : Int32} : ∀ (k m m2 : Nat) (x : Int32) {t : Nat} {I : am_mI} {J : am_mJ} {A : am_mI} {B : am_mJ}, am_Iv t I J A B → 1 ≤ x.toInt → x.toInt + k = 7 → k < m → k < m2 →
    ∃ (r : Int32) (I1 A1 : am_mI), LX7_women m I J n x = some (r, I1, J) ∧ LX8_women m2 A B n x = some (r, A1, B) ∧ am_Iv t I1 J A1 B := by
  intro k
  induction k with
  | zero =>
    intro m m2 x t I J A B h h0 h1 hm hm2
    obtain ⟨m, rfl⟩ : ∃ j, m = j + 1 := ⟨m - 1, by omega⟩
    obtain ⟨m2, rfl⟩ : ∃ j, m2 = j + 1 := ⟨m2 - 1, by omega⟩
    have q : (6 : Int32) < x := by ((try simp only [Int32.lt_iff_toInt_lt, Int32.le_iff_toInt_le, Int32.reduceToInt, ← Int32.toNat_toInt, ← Int32.toInt_inj] at *) <;> omega)
    unfold LX7_women LX8_women
    rw [if_pos q, if_pos q]
    exact ⟨-1, I, A, rfl, rfl, h⟩
  | succ k ih =>
    intro m m2 x t I J A B h h0 h1 hm hm2
    obtain ⟨m, rfl⟩ : ∃ j, m = j + 1 := ⟨m - 1, by omega⟩
    obtain ⟨m2, rfl⟩ : ∃ j, m2 = j + 1 := ⟨m2 - 1, by omega⟩
    have v6 : (6 : Int32).toInt = 6 := rfl
    have q : ¬ (6 : Int32) < x := by
      rw [Int32.lt_iff_toInt_lt]
      omega
    have x1 : (x + 1).toInt = x.toInt + 1 := i32_succ (n := 24) (by omega) (by omega) (by omega)
    obtain ⟨r, I1, A1, r1, r2, r3⟩ := workAs h (w := x) (by omega)
    unfold LX7_women LX8_women
    rw [if_neg q, if_neg q, r1, r2, Option.bind_some, Option.bind_some]
    dsimp only
    by_cases c : n < r
    · rw [if_pos c, if_pos c]
      exact ih m m2 (x + 1) r3 (by omega) (by omega) (by omega) (by omega)
    · rw [if_neg c, if_neg c]
      exact ⟨x, I1, A1, rfl, rfl, r3⟩
theorem op_women {t : Nat} {I : am_mI} {J : am_mJ} {A : am_mI} {B : am_mJ} (h : am_Iv t I J A B) (n : Int32) : am_Tw (t + 20000) (DX7_women I J n) (DX8_women A B n) := by
  unfold DX7_women DX8_women
  by_cases c0 : n < 0
  · rw [if_pos c0, if_pos c0]
    exact .noTen6 h
  · rw [if_neg c0, if_neg c0]
    by_cases c1 : n ≤ (999 : Int32)
    · rw [if_pos c1, if_pos c1]
      obtain ⟨r, I1, A1, r1, r2, r3⟩ := women_sim (n := n) 6 am_FU am_FU 1 h (by decide) (by decide) (by decide) (by decide)
      rw [r1, r2]
      exact .mk1 r3
    · rw [if_neg c1, if_neg c1]
      exact .noTen6 h
