/-! SENTENCES: women at work -/
/-- the minutes that a cell takes, 0 where nothing is to be laid; those of a column's k lowest rows; the row behind the one that comes next, 0 for none -/
def am_tk (A : am_mI) (c : Nat) : Nat := if A 6 c = -1 ∧ ¬ A 7 c = -1 then (10 - (A 4 (A 7 c).toNatClampNeg).toInt).toNat else 0
def am_sm (A : am_mI) (q : Nat) : Nat → Nat
  | 0 => 0
  | k + 1 => am_tk A (4 * k + q) + am_sm A q k
def am_nx (A : am_mI) (q : Nat) : Nat → Nat
  | 0 => 0
  | k + 1 => if am_tk A (4 * k + q) = 0 then am_nx A q k else k + 1
theorem am_nx.le (A : am_mI) (q : Nat) : ∀ k, am_nx A q k ≤ k
  | 0 => Nat.le_refl 0
  | k + 1 => by
    have := am_nx.le A q k
    unfold am_nx
    split <;> omega
theorem am_nx.sm (A : am_mI) (q : Nat) : ∀ k, am_sm A q (am_nx A q k) = am_sm A q k
  | 0 => rfl
  | k + 1 => by
    have := am_nx.sm A q k
    unfold am_nx
    split
    · rw [this]
      show _ = am_tk A (4 * k + q) + am_sm A q k
      omega
    · rfl
theorem am_nx.on (A : am_mI) (q : Nat) : ∀ k j, am_nx A q k = j + 1 → am_tk A (4 * j + q) ≠ 0
  | 0, j, h => by
    unfold am_nx at h
    omega
  | k + 1, j, h => by
    unfold am_nx at h
    split at h
    · exact am_nx.on A q k j h
    · rw [show j = k by omega]
      assumption
theorem am_nx.nil (A : am_mI) (q : Nat) : ∀ k, am_nx A q k = 0 → am_sm A q k = 0
  | k, h => by
    rw [← am_nx.sm, h]
    rfl
theorem am_nx.pos (A : am_mI) (q : Nat) (k : Nat) (h : am_nx A q k ≠ 0) : am_sm A q k ≠ 0 := by
  obtain ⟨j, ej⟩ : ∃ j, am_nx A q k = j + 1 := ⟨am_nx A q k - 1, by omega⟩
  have := am_nx.on A q k j ej
  rw [← am_nx.sm, ej]
  show am_tk A (4 * j + q) + am_sm A q j ≠ 0
  omega
theorem am_Iv.tk {t : Nat} {I : am_mI} {J : am_mJ} {A : am_mI} {B : am_mJ} (h : am_Iv t I J A B) {c : Nat} (hc : c < 24) : am_tk A c ≤ 10 ∧ ((A 6 c = -1 ∧ ¬ A 7 c = -1) → 1 ≤ am_tk A c ∧ (am_tk A c : Int) = 10 - (A 4 (A 7 c).toNatClampNeg).toInt ∧ ¬ (A 7 c < 0 ∨ 8 ≤ (A 7 c).toNatClampNeg) ∧ ¬ DX8_isStuff A (A 7 c) = 0) ∧ (¬ (A 6 c = -1 ∧ ¬ A 7 c = -1) → am_tk A c = 0) := by
  have on : (A 6 c = -1 ∧ ¬ A 7 c = -1) → 1 ≤ am_tk A c ∧ (am_tk A c : Int) = 10 - (A 4 (A 7 c).toNatClampNeg).toInt ∧ ¬ (A 7 c < 0 ∨ 8 ≤ (A 7 c).toNatClampNeg) ∧ ¬ DX8_isStuff A (A 7 c) = 0 := by
    intro o
    have g : -1 ≤ (A 7 c).toInt ∧ (A 7 c).toInt < (A 0 0).toInt := (h.rg.2.2.2.2.2.2.1 c hc).2.2
    have n1 : (A 7 c).toInt ≠ (-1 : Int32).toInt := fun e => o.2 (Int32.toInt_inj.mp e)
    have v1 : (-1 : Int32).toInt = -1 := rfl
    have st : ¬ DX8_isStuff A (A 7 c) = 0 := mstuff (by omega) g.2
    have ka := (h.kinds st).2.2
    unfold am_tk
    rw [if_pos o]
    exact ⟨by omega, by omega, (stuffAt h st).1, st⟩
  have off : ¬ (A 6 c = -1 ∧ ¬ A 7 c = -1) → am_tk A c = 0 := fun o => if_neg o
  refine ⟨?_, on, off⟩
  by_cases o : A 6 c = -1 ∧ ¬ A 7 c = -1
  · have st := (on o).2.2.2
    have ka := (h.kinds st).2.2
    have := (on o).2.1
    omega
  · rw [off o]
    omega
/-- what women's work leaves alone -/
def am_Wf (I X A A1 : am_mI) : Prop := (∀ k, k < 34 ∨ 38 ≤ k → X k = I k) ∧ (∀ k, k < 21 ∨ 24 ≤ k → A1 k = A k)
theorem am_Wf.x {I X A A1 : am_mI} (f : am_Wf I X A A1) {k i : Nat} {v : Int32} (hk : 34 ≤ k ∧ k < 38) : am_Wf I (am_upI X k i v) A A1 := ⟨fun q hq => (am_upI_ne (by omega)).trans (f.1 q hq), f.2⟩
theorem am_Wf.m {I X A A1 : am_mI} (f : am_Wf I X A A1) {k i : Nat} {v : Int32} (hk : 21 ≤ k ∧ k < 24) : am_Wf I X A (am_upI A1 k i v) := ⟨f.1, fun q hq => (am_upI_ne (by omega)).trans (f.2 q hq)⟩
theorem am_Iv.wf {t : Nat} {I : am_mI} {J : am_mJ} {A : am_mI} {B : am_mJ} (h : am_Iv t I J A B) {X A1 : am_mI} (f : am_Wf I X A A1) : am_Iv t X J A1 B := by
  refine h.same (fun k hk => f.1 k (by omega)) (fun k hk => f.2 k (by omega)) rfl rfl ?_
  have := h.ot
  unfold am_Ot at this ⊢
  rw [f.1 13 (by decide), f.1 14 (by decide), f.1 15 (by decide), f.1 16 (by decide), f.1 17 (by decide), f.1 18 (by decide), f.1 19 (by decide), f.1 20 (by decide), f.1 21 (by decide), f.2 2 (by decide), f.2 3 (by decide), f.2 4 (by decide), f.2 5 (by decide), f.2 6 (by decide), f.2 7 (by decide), f.2 8 (by decide), f.2 9 (by decide), f.2 10 (by decide)]
  exact this
theorem i32_pred {r : Int32} (h0 : 0 ≤ r.toInt) : (r + -1).toInt = r.toInt - 1 := by
  have vn : (-1 : Int32).toInt = -1 := rfl
  have := Int32.toInt_lt r
  rw [Int32.toInt_add, vn]
  exact Int.bmod_eq_of_le (by omega) (by omega)
theorem openAs {t : Nat} {I : am_mI} {J : am_mJ} {A : am_mI} {B : am_mJ} (h : am_Iv t I J A B) {X A1 : am_mI} (f : am_Wf I X A A1) {a : Int32} {c : Nat} (hc : c < 24) (ea : a.toInt = (c : Int)) :
    DX8_isOpen A1 a = some (if am_tk A c = 0 then 0 else 1) ∧ DX1_isPlannedBare X 2 a = some (if am_tk A c = 0 then 0 else 1) ∧ ∃ v : Int32, v.toInt = am_tk A c ∧ DX6_minutesFor X 2 a = some v ∧ (am_tk A c ≠ 0 → DX8_takesAt A1 a = some v) := by
  have h1 := h.wf f
  have c1 := xcell (a := a) (by omega)
  have c2 := cell_in c1
  have e : a.toNatClampNeg = c := by
    have : a.toNatClampNeg = a.toInt.toNat := rfl
    omega
  obtain ⟨-, -, p2, -⟩ := cellAt h1 c1
  obtain ⟨t1, t2, t3⟩ := h.tk hc
  have a6 : A1 6 = A 6 := f.2 6 (by decide)
  have a7 : A1 7 = A 7 := f.2 7 (by decide)
  have a4 : A1 4 = A 4 := f.2 4 (by decide)
  have po : DX1_isPlannedBare X 2 a = some (if am_tk A c = 0 then 0 else 1) := by
    unfold DX1_isPlannedBare
    rw [if_neg c1, if_pos c2.1, if_pos c2.1, show X (2 + 5) = A 6 from (h1.bd.r4).trans a6, show X (2 + 6) = A 7 from (h1.bd.r5).trans a7, e]
    by_cases l : A 6 c = -1
    · rw [if_neg (not_not_intro l)]
      by_cases p : A 7 c = -1
      · rw [if_pos p, if_pos (t3 (fun z => z.2 p))]
      · rw [if_neg p, if_neg (show ¬ am_tk A c = 0 by have := (t2 ⟨l, p⟩).1; omega)]
    · rw [if_pos l, if_pos (t3 (fun z => l z.1))]
  refine ⟨?_, po, ?_⟩
  · unfold DX8_isOpen
    rw [if_pos c2.1, if_pos c2.1, a6, a7, e]
    by_cases l : A 6 c = -1
    · rw [if_neg (not_not_intro l)]
      by_cases p : A 7 c = -1
      · rw [if_pos p, if_pos (t3 (fun z => z.2 p))]
      · rw [if_neg p, if_neg (show ¬ am_tk A c = 0 by have := (t2 ⟨l, p⟩).1; omega)]
    · rw [if_pos l, if_pos (t3 (fun z => l z.1))]
  · unfold DX6_minutesFor
    rw [po, Option.bind_some]
    by_cases z : am_tk A c = 0
    · rw [if_pos z, if_pos rfl, z]
      exact ⟨0, rfl, rfl, fun f => absurd rfl f⟩
    · rw [if_neg z, if_neg (by decide), p2, Option.bind_some, a7, e]
      have o : A 6 c = -1 ∧ ¬ A 7 c = -1 := by
        by_cases o : A 6 c = -1 ∧ ¬ A 7 c = -1
        · exact o
        · exact absurd (t3 o) z
      obtain ⟨u1, u2, u3, u4⟩ := t2 o
      have st1 : ¬ DX8_isStuff A1 (A 7 c) = 0 := by
        have e0 : A1 0 = A 0 := f.2 0 (by decide)
        unfold DX8_isStuff at u4 ⊢
        rw [e0]
        exact u4
      obtain ⟨-, -, -, k2⟩ := stuffAt h1 st1
      rw [k2, Option.bind_some, a4]
      refine ⟨_, ?_, rfl, fun _ => ?_⟩
      · have v10 : (10 : Int32).toInt = 10 := rfl
        rw [Int32.toInt_sub, v10, u2]
        have ka := (h.kinds u4).2.2
        exact Int.bmod_eq_of_le (by omega) (by omega)
      · unfold DX8_takesAt
        rw [if_pos c2.1, a7, e, if_pos u3, a4]
/-- one column, as both keep it: idle, or at work until e -/
def am_Cl (A X A1 : am_mI) (mm lo q : Nat) : Prop :=
  (∃ k : Nat, k ≤ 6 ∧ (X 35 q).toInt = (k : Int) - 1 ∧ (X 36 q).toInt = am_sm A q k ∧ X 37 q = -1 ∧ (A1 21 q).toInt = (am_nx A q k : Int) - 1 ∧ A1 23 q = 0 ∧ (am_nx A q k ≠ 0 → (A1 22 q).toInt = am_tk A (4 * (am_nx A q k - 1) + q))) ∨
  (∃ j e : Nat, j < 6 ∧ lo ≤ e ∧ e ≤ 1000 ∧ (X 35 q).toInt = (j : Int) - 1 ∧ (X 36 q).toInt = am_sm A q j ∧ (X 37 q).toInt = e ∧ (A1 21 q).toInt = j ∧ A1 23 q = 1 ∧ (A1 22 q).toInt = (e : Int) - mm)
theorem am_Cl.cong {A X X' A1 A1' : am_mI} {mm lo q : Nat} (h : am_Cl A X A1 mm lo q) (e1 : X' 35 q = X 35 q) (e2 : X' 36 q = X 36 q) (e3 : X' 37 q = X 37 q) (e4 : A1' 21 q = A1 21 q) (e5 : A1' 22 q = A1 22 q) (e6 : A1' 23 q = A1 23 q) : am_Cl A X' A1' mm lo q := by
  unfold am_Cl at h ⊢
  rw [e1, e2, e3, e4, e5, e6]
  exact h
theorem am_Cl.lo {A X A1 : am_mI} {mm lo lo' q : Nat} (h : am_Cl A X A1 mm lo q) (hl : lo' ≤ lo) : am_Cl A X A1 mm lo' q := by
  rcases h with h | ⟨j, e, h1, h2, h3⟩
  · exact Or.inl h
  · exact Or.inr ⟨j, e, h1, Nat.le_trans hl h2, h3⟩
theorem sm_le {t : Nat} {I : am_mI} {J : am_mJ} {A : am_mI} {B : am_mJ} (h : am_Iv t I J A B) {q : Nat} (hq : q < 4) : ∀ k, k ≤ 6 → am_sm A q k ≤ 10 * k
  | 0, _ => Nat.le_refl 0
  | k + 1, hk => by
    have := sm_le h hq k (by omega)
    have := (h.tk (c := 4 * k + q) (by omega)).1
    show am_tk A (4 * k + q) + am_sm A q k ≤ 10 * (k + 1)
    omega
theorem col_in {x : Int32} (h0 : 0 ≤ x.toInt) (h1 : x.toInt < 4) : ¬ (x < 0 ∨ 4 ≤ x.toNatClampNeg) := am_in (n := 4) (by
  have v0 : (0 : Int32).toInt = 0 := rfl
  rw [Int32.lt_iff_toInt_lt]
  omega) h1
theorem LX8_seeks_s (n : Nat) (I : (Nat → Nat → Int32)) (J : (Nat → Nat → Int64)) (x1 : Int32) (x3 : Int32) : LX8_seeks (n + 1) I J x1 x3 =
    if x3 < 0 then
      if ¬ (x1 < 0 ∨ 4 ≤ (x1).toNatClampNeg) then
        if ¬ (x1 < 0 ∨ 4 ≤ (x1).toNatClampNeg) then
          if 0 ≤ x3 then
            (DX8_takesAt (am_upI ((am_upI I 21 (x1).toNatClampNeg x3)) 23 (x1).toNatClampNeg (0 : Int32)) ((((4 : Int32) * x3) + x1))).bind fun q8 =>
            if ¬ (x1 < 0 ∨ 4 ≤ (x1).toNatClampNeg) then
              (some (am_upI ((am_upI ((am_upI I 21 (x1).toNatClampNeg x3)) 23 (x1).toNatClampNeg (0 : Int32))) 22 (x1).toNatClampNeg q8)).bind fun I9 =>
              some ((0 : Int32), I9, J)
            else none
          else
            if ¬ (x1 < 0 ∨ 4 ≤ (x1).toNatClampNeg) then
              (some (am_upI ((am_upI ((am_upI I 21 (x1).toNatClampNeg x3)) 23 (x1).toNatClampNeg (0 : Int32))) 22 (x1).toNatClampNeg (0 : Int32))).bind fun I10 =>
              some ((0 : Int32), I10, J)
            else none
        else none
      else none
    else
      (DX8_isOpen I ((((4 : Int32) * x3) + x1))).bind fun q11 =>
      if ¬ q11 = 0 then
        if ¬ (x1 < 0 ∨ 4 ≤ (x1).toNatClampNeg) then
          if ¬ (x1 < 0 ∨ 4 ≤ (x1).toNatClampNeg) then
            if 0 ≤ x3 then
              (DX8_takesAt (am_upI ((am_upI I 21 (x1).toNatClampNeg x3)) 23 (x1).toNatClampNeg (0 : Int32)) ((((4 : Int32) * x3) + x1))).bind fun q12 =>
              if ¬ (x1 < 0 ∨ 4 ≤ (x1).toNatClampNeg) then
                (some (am_upI ((am_upI ((am_upI I 21 (x1).toNatClampNeg x3)) 23 (x1).toNatClampNeg (0 : Int32))) 22 (x1).toNatClampNeg q12)).bind fun I13 =>
                some ((0 : Int32), I13, J)
              else none
            else
              if ¬ (x1 < 0 ∨ 4 ≤ (x1).toNatClampNeg) then
                (some (am_upI ((am_upI ((am_upI I 21 (x1).toNatClampNeg x3)) 23 (x1).toNatClampNeg (0 : Int32))) 22 (x1).toNatClampNeg (0 : Int32))).bind fun I14 =>
                some ((0 : Int32), I14, J)
              else none
          else none
        else none
      else
        LX8_seeks n I J x1 ((x3 + (-1 : Int32))) := rfl
theorem LX6_begin_s0 (n : Nat) (I : (Nat → Nat → Int32)) (J : (Nat → Nat → Int64)) (g0 : Nat) (x2 : Int32) (x3 : Int32) : LX6_begin (n + 1) 0 I J g0 x2 x3 =
    if (4 : Int32) ≤ x2 then
      some ((0 : Int32), I, J)
    else
      if ¬ (x2 < 0 ∨ 4 ≤ (x2).toNatClampNeg) then
        if ¬ (x2 < 0 ∨ 4 ≤ (x2).toNatClampNeg) then
          if ¬ (x2 < 0 ∨ 4 ≤ (x2).toNatClampNeg) then
            (some (am_upI ((am_upI ((am_upI I 35 (x2).toNatClampNeg (5 : Int32))) 37 (x2).toNatClampNeg (-1 : Int32))) 36 (x2).toNatClampNeg (0 : Int32))).bind fun I3 =>
            LX6_begin n 1 I3 J g0 x2 ((0 : Int32))
          else none
        else none
      else none := rfl
theorem LX6_begin_s1 (n : Nat) (I : (Nat → Nat → Int32)) (J : (Nat → Nat → Int64)) (g0 : Nat) (x2 : Int32) (x3 : Int32) : LX6_begin (n + 1) 1 I J g0 x2 x3 =
    if (6 : Int32) ≤ x3 then
      LX6_begin n 0 I J g0 ((x2 + (1 : Int32))) 0
    else
      if ¬ (x2 < 0 ∨ 4 ≤ (x2).toNatClampNeg) then
        (DX6_minutesFor I g0 (((x3 * (4 : Int32)) + x2))).bind fun q4 =>
        if ¬ (x2 < 0 ∨ 4 ≤ (x2).toNatClampNeg) then
          LX6_begin n 1 ((am_upI I 36 (x2).toNatClampNeg ((I 36 (x2).toNatClampNeg) + q4))) J g0 x2 ((x3 + (1 : Int32)))
        else none
      else none := rfl
theorem LX8_doneBy_s0 (n : Nat) (I : (Nat → Nat → Int32)) (J : (Nat → Nat → Int64)) (x1 : Int32) (x2 : Int32) (x3 : Int32) (x4 : Int32) (x5 : Int32) (x6 : Int32) : LX8_doneBy (n + 1) 0 I J x1 x2 x3 x4 x5 x6 =
    if (4 : Int32) ≤ x2 then
      LX8_doneBy n 1 I J 0 x1 ((0 : Int32)) 0 0 0
    else
      (DX8_seeks I J x2 ((5 : Int32))).bind fun q5 =>
      LX8_doneBy n 0 q5.2.1 q5.2.2 x1 ((x2 + (1 : Int32))) 0 0 0 0 := rfl
theorem LX8_doneBy_s1 (n : Nat) (I : (Nat → Nat → Int32)) (J : (Nat → Nat → Int64)) (x1 : Int32) (x2 : Int32) (x3 : Int32) (x4 : Int32) (x5 : Int32) (x6 : Int32) : LX8_doneBy (n + 1) 1 I J x1 x2 x3 x4 x5 x6 =
    LX8_doneBy n 2 I J 0 x2 x3 ((0 : Int32)) ((0 : Int32)) 0 := rfl
theorem LX8_doneBy_s2 (n : Nat) (I : (Nat → Nat → Int32)) (J : (Nat → Nat → Int64)) (x1 : Int32) (x2 : Int32) (x3 : Int32) (x4 : Int32) (x5 : Int32) (x6 : Int32) : LX8_doneBy (n + 1) 2 I J x1 x2 x3 x4 x5 x6 =
    if (4 : Int32) ≤ x5 then
      if ¬ x4 = 0 then
        LX8_doneBy n 3 I J 0 x2 x3 0 0 0
      else
        some (x3, I, J)
    else
      if ¬ (x5 < 0 ∨ 4 ≤ (x5).toNatClampNeg) then
        if (I 21 (x5).toNatClampNeg) < 0 then
          if ¬ (x5 < 0 ∨ 4 ≤ (x5).toNatClampNeg) then
            if (I 21 (x5).toNatClampNeg) < 0 then
              LX8_doneBy n 2 I J 0 x2 x3 ((x4 ||| (0 : Int32))) ((x5 + (1 : Int32))) 0
            else
              LX8_doneBy n 2 I J 0 x2 x3 ((x4 ||| (1 : Int32))) ((x5 + (1 : Int32))) 0
          else none
        else
          if ¬ (x5 < 0 ∨ 4 ≤ (x5).toNatClampNeg) then
            if ¬ (I 23 (x5).toNatClampNeg) = (1 : Int32) then
              if ¬ (x5 < 0 ∨ 4 ≤ (x5).toNatClampNeg) then
                if (I 21 (x5).toNatClampNeg) < 0 then
                  LX8_doneBy n 2 I J 0 x2 x3 ((x4 ||| (0 : Int32))) ((x5 + (1 : Int32))) 0
                else
                  LX8_doneBy n 2 I J 0 x2 x3 ((x4 ||| (1 : Int32))) ((x5 + (1 : Int32))) 0
              else none
            else
              if ¬ (x5 < 0 ∨ 4 ≤ (x5).toNatClampNeg) then
                if ¬ (I 22 (x5).toNatClampNeg) = 0 then
                  if ¬ (x5 < 0 ∨ 4 ≤ (x5).toNatClampNeg) then
                    if (I 21 (x5).toNatClampNeg) < 0 then
                      LX8_doneBy n 2 I J 0 x2 x3 ((x4 ||| (0 : Int32))) ((x5 + (1 : Int32))) 0
                    else
                      LX8_doneBy n 2 I J 0 x2 x3 ((x4 ||| (1 : Int32))) ((x5 + (1 : Int32))) 0
                  else none
                else
                  if ¬ (x5 < 0 ∨ 4 ≤ (x5).toNatClampNeg) then
                    (DX8_seeks I J x5 (((I 21 (x5).toNatClampNeg) - (1 : Int32)))).bind fun q6 =>
                    if ¬ (x5 < 0 ∨ 4 ≤ (x5).toNatClampNeg) then
                      if (q6.2.1 21 (x5).toNatClampNeg) < 0 then
                        LX8_doneBy n 2 q6.2.1 q6.2.2 0 ((x2 + (1 : Int32))) x3 ((x4 ||| (0 : Int32))) ((x5 + (1 : Int32))) 0
                      else
                        LX8_doneBy n 2 q6.2.1 q6.2.2 0 ((x2 + (1 : Int32))) x3 ((x4 ||| (1 : Int32))) ((x5 + (1 : Int32))) 0
                    else none
                  else none
              else none
          else none
      else none := rfl
theorem LX8_doneBy_s3 (n : Nat) (I : (Nat → Nat → Int32)) (J : (Nat → Nat → Int64)) (x1 : Int32) (x2 : Int32) (x3 : Int32) (x4 : Int32) (x5 : Int32) (x6 : Int32) : LX8_doneBy (n + 1) 3 I J x1 x2 x3 x4 x5 x6 =
    if x2 ≤ 0 then
      LX8_doneBy n 5 I J 0 x2 x3 0 ((0 : Int32)) 0
    else
      LX8_doneBy n 4 I J 0 x2 x3 0 ((-1 : Int32)) ((0 : Int32)) := rfl
theorem LX8_doneBy_s4 (n : Nat) (I : (Nat → Nat → Int32)) (J : (Nat → Nat → Int64)) (x1 : Int32) (x2 : Int32) (x3 : Int32) (x4 : Int32) (x5 : Int32) (x6 : Int32) : LX8_doneBy (n + 1) 4 I J x1 x2 x3 x4 x5 x6 =
    if (4 : Int32) ≤ x6 then
      if ¬ x5 = (-1 : Int32) then
        if ¬ (x5 < 0 ∨ 4 ≤ (x5).toNatClampNeg) then
          LX8_doneBy n 3 ((am_upI I 23 (x5).toNatClampNeg (1 : Int32))) J 0 ((x2 + (-1 : Int32))) x3 0 0 0
        else none
      else
        LX8_doneBy n 5 I J 0 x2 x3 0 ((0 : Int32)) 0
    else
      if ¬ (x6 < 0 ∨ 4 ≤ (x6).toNatClampNeg) then
        if (I 21 (x6).toNatClampNeg) < 0 then
          LX8_doneBy n 4 I J 0 x2 x3 0 x5 ((x6 + (1 : Int32)))
        else
          if ¬ (x6 < 0 ∨ 4 ≤ (x6).toNatClampNeg) then
            if ¬ (I 23 (x6).toNatClampNeg) = 0 then
              LX8_doneBy n 4 I J 0 x2 x3 0 x5 ((x6 + (1 : Int32)))
            else
              if x5 = (-1 : Int32) then
                LX8_doneBy n 4 I J 0 x2 x3 0 x6 ((x6 + (1 : Int32)))
              else
                (DX8_leftOf I x6).bind fun q7 =>
                (DX8_leftOf I x5).bind fun q8 =>
                if q7 ≤ q8 then
                  LX8_doneBy n 4 I J 0 x2 x3 0 x5 ((x6 + (1 : Int32)))
                else
                  LX8_doneBy n 4 I J 0 x2 x3 0 x6 ((x6 + (1 : Int32)))
          else none
      else none := rfl
theorem LX8_doneBy_s5 (n : Nat) (I : (Nat → Nat → Int32)) (J : (Nat → Nat → Int64)) (x1 : Int32) (x2 : Int32) (x3 : Int32) (x4 : Int32) (x5 : Int32) (x6 : Int32) : LX8_doneBy (n + 1) 5 I J x1 x2 x3 x4 x5 x6 =
    if (4 : Int32) ≤ x5 then
      LX8_doneBy n 1 I J 0 x2 ((x3 + (1 : Int32))) 0 0 0
    else
      if ¬ (x5 < 0 ∨ 4 ≤ (x5).toNatClampNeg) then
        if (I 21 (x5).toNatClampNeg) < 0 then
          LX8_doneBy n 5 I J 0 x2 x3 0 ((x5 + (1 : Int32))) 0
        else
          if ¬ (x5 < 0 ∨ 4 ≤ (x5).toNatClampNeg) then
            if ¬ (I 23 (x5).toNatClampNeg) = (1 : Int32) then
              LX8_doneBy n 5 I J 0 x2 x3 0 ((x5 + (1 : Int32))) 0
            else
              if ¬ (x5 < 0 ∨ 4 ≤ (x5).toNatClampNeg) then
                if ¬ (x5 < 0 ∨ 4 ≤ (x5).toNatClampNeg) then
                  LX8_doneBy n 5 ((am_upI I 22 (x5).toNatClampNeg ((I 22 (x5).toNatClampNeg) - (1 : Int32)))) J 0 x2 x3 0 ((x5 + (1 : Int32))) 0
                else none
              else none
          else none
      else none := rfl
theorem LX8_leftOf_s (n : Nat) (I : (Nat → Nat → Int32)) (x1 : Int32) (x2 : Int32) (x3 : Int32) : LX8_leftOf (n + 1) I x1 x2 x3 =
    if x3 < 0 then
      some x2
    else
      (DX8_isOpen I ((((4 : Int32) * x3) + x1))).bind fun q3 =>
      if q3 = 0 then
        LX8_leftOf n I x1 x2 ((x3 + (-1 : Int32)))
      else
        (DX8_takesAt I ((((4 : Int32) * x3) + x1))).bind fun q4 =>
        LX8_leftOf n I x1 ((x2 + q4)) ((x3 + (-1 : Int32))) := rfl
theorem LX6_takeNextOf_s (n : Nat) (I : (Nat → Nat → Int32)) (J : (Nat → Nat → Int64)) (g0 : Nat) (x2 : Int32) (x3 : Int32) (x4 : Int32) : LX6_takeNextOf (n + 1) I J g0 x2 x3 x4 =
    if x4 ≤ 0 then
      (DX6_minutesFor I g0 (((x4 * (4 : Int32)) + x2))).bind fun q6 =>
      if ¬ (x2 < 0 ∨ 4 ≤ (x2).toNatClampNeg) then
        if ¬ (x2 < 0 ∨ 4 ≤ (x2).toNatClampNeg) then
          if ¬ (x2 < 0 ∨ 4 ≤ (x2).toNatClampNeg) then
            (some (am_upI ((am_upI I 35 (x2).toNatClampNeg (x4 - (1 : Int32)))) 36 (x2).toNatClampNeg ((((am_upI I 35 (x2).toNatClampNeg (x4 - (1 : Int32)))) 36 (x2).toNatClampNeg) - q6))).bind fun I7 =>
            if ¬ (x2 < 0 ∨ 4 ≤ (x2).toNatClampNeg) then
              some ((0 : Int32), (am_upI I7 37 (x2).toNatClampNeg (x3 + q6)), J)
            else none
          else none
        else none
      else none
    else
      (DX1_isPlannedBare I g0 (((x4 * (4 : Int32)) + x2))).bind fun q8 =>
      if ¬ q8 = 0 then
        (DX6_minutesFor I g0 (((x4 * (4 : Int32)) + x2))).bind fun q9 =>
        if ¬ (x2 < 0 ∨ 4 ≤ (x2).toNatClampNeg) then
          if ¬ (x2 < 0 ∨ 4 ≤ (x2).toNatClampNeg) then
            if ¬ (x2 < 0 ∨ 4 ≤ (x2).toNatClampNeg) then
              (some (am_upI ((am_upI I 35 (x2).toNatClampNeg (x4 - (1 : Int32)))) 36 (x2).toNatClampNeg ((((am_upI I 35 (x2).toNatClampNeg (x4 - (1 : Int32)))) 36 (x2).toNatClampNeg) - q9))).bind fun I10 =>
              if ¬ (x2 < 0 ∨ 4 ≤ (x2).toNatClampNeg) then
                some ((0 : Int32), (am_upI I10 37 (x2).toNatClampNeg (x3 + q9)), J)
              else none
            else none
          else none
        else none
      else
        LX6_takeNextOf n I J g0 x2 x3 ((x4 + (-1 : Int32))) := rfl
theorem LX6_takeCells_s (n : Nat) (I : (Nat → Nat → Int32)) (J : (Nat → Nat → Int64)) (g0 : Nat) (x2 : Int32) (x3 : Int32) (x4 : Int32) : LX6_takeCells (n + 1) I J g0 x2 x3 x4 =
    if x3 ≤ x4 then
      some (x4, I, J)
    else
      (DX6_fullestIdleColumn I).bind fun q3 =>
      if ¬ q3 = (-1 : Int32) then
        (DX6_takeNextOf I J g0 q3 x2).bind fun q4 =>
        LX6_takeCells n q4.2.1 q4.2.2 g0 x2 x3 ((x4 + (1 : Int32)))
      else
        some (x4, I, J) := rfl
theorem LX6_fullestIdleColumn_s (n : Nat) (I : (Nat → Nat → Int32)) (x1 : Int32) (x2 : Int32) (x3 : Int32) : LX6_fullestIdleColumn (n + 1) I x1 x2 x3 =
    if (4 : Int32) ≤ x3 then
      some x1
    else
      if ¬ (x3 < 0 ∨ 4 ≤ (x3).toNatClampNeg) then
        if ¬ (I 37 (x3).toNatClampNeg) = (-1 : Int32) then
          LX6_fullestIdleColumn n I x1 x2 ((x3 + (1 : Int32)))
        else
          if ¬ (x3 < 0 ∨ 4 ≤ (x3).toNatClampNeg) then
            if (I 36 (x3).toNatClampNeg) ≤ x2 then
              LX6_fullestIdleColumn n I x1 x2 ((x3 + (1 : Int32)))
            else
              if ¬ (x3 < 0 ∨ 4 ≤ (x3).toNatClampNeg) then
                LX6_fullestIdleColumn n I x3 ((I 36 (x3).toNatClampNeg)) ((x3 + (1 : Int32)))
              else none
          else none
      else none := rfl
theorem LX6_finish_s (n : Nat) (I : (Nat → Nat → Int32)) (J : (Nat → Nat → Int64)) (x1 : Int32) (x2 : Int32) (x3 : Int32) : LX6_finish (n + 1) I J x1 x2 x3 =
    if (4 : Int32) ≤ x3 then
      some (x2, I, J)
    else
      if ¬ (x3 < 0 ∨ 4 ≤ (x3).toNatClampNeg) then
        if ¬ (I 37 (x3).toNatClampNeg) = x1 then
          LX6_finish n I J x1 x2 ((x3 + (1 : Int32)))
        else
          if ¬ (x3 < 0 ∨ 4 ≤ (x3).toNatClampNeg) then
            LX6_finish n ((am_upI I 37 (x3).toNatClampNeg (-1 : Int32))) J x1 ((x2 + (1 : Int32))) ((x3 + (1 : Int32)))
          else none
      else none := rfl
theorem LX6_lastMinute_s (n : Nat) (I : (Nat → Nat → Int32)) (J : (Nat → Nat → Int64)) (g0 : Nat) (x2 : Int32) (x3 : Int32) (x4 : Int32) : LX6_lastMinute (n + 1) I J g0 x2 x3 x4 =
    if (240 : Int32) < x4 then
      some ((240 : Int32), I, J)
    else
      (DX6_finish I J x4).bind fun q4 =>
      (DX6_takeCells q4.2.1 q4.2.2 g0 x4 ((x3 + q4.1))).bind fun q5 =>
      if ((x3 + q4.1) - q5.1) < x2 then
        LX6_lastMinute n q5.2.1 q5.2.2 g0 x2 (((x3 + q4.1) - q5.1)) ((x4 + (1 : Int32)))
      else
        some (x4, q5.2.1, q5.2.2) := rfl
/-- m seeks a column's next row -/
theorem seek_sim {t : Nat} {I : am_mI} {J : am_mJ} {A : am_mI} {B : am_mJ} (h : am_Iv t I J A B) {X A1 : am_mI} (f : am_Wf I X A A1) {q : Nat} (hq : q < 4) {x : Int32} (ex : x.toInt = (q : Int)) : ∀ (k m : Nat) (r : Int32), k ≤ 6 → r.toInt = (k : Int) - 1 → k < m →
    ∃ u v : Int32, LX8_seeks m A1 B x r = some (0, am_upI (am_upI (am_upI A1 21 q u) 23 q 0) 22 q v, B) ∧ u.toInt = (am_nx A q k : Int) - 1 ∧ (am_nx A q k ≠ 0 → v.toInt = am_tk A (4 * (am_nx A q k - 1) + q)) := by
  have v0 : (0 : Int32).toInt = 0 := rfl
  have v4 : (4 : Int32).toInt = 4 := rfl
  have vn : (-1 : Int32).toInt = -1 := rfl
  have g := col_in (x := x) (by omega) (by omega)
  have exq : x.toNatClampNeg = q := by
    have : x.toNatClampNeg = x.toInt.toNat := rfl
    omega
  intro k
  induction k with
  | zero =>
    intro m r hk hr hm
    obtain ⟨m, rfl⟩ : ∃ j, m = j + 1 := ⟨m - 1, by omega⟩
    have r0 : r < 0 := by
      rw [Int32.lt_iff_toInt_lt]
      omega
    have r1 : ¬ 0 ≤ r := by
      rw [Int32.le_iff_toInt_le]
      omega
    rw [LX8_seeks_s, if_pos r0]
    simp only [if_pos g]
    rw [if_neg r1, Option.bind_some, exq]
    refine ⟨r, 0, rfl, hr, fun z => absurd rfl z⟩
  | succ k ih =>
    intro m r hk hr hm
    obtain ⟨m, rfl⟩ : ∃ j, m = j + 1 := ⟨m - 1, by omega⟩
    have r0 : ¬ r < 0 := by
      rw [Int32.lt_iff_toInt_lt]
      omega
    have r1 : 0 ≤ r := by
      rw [Int32.le_iff_toInt_le]
      omega
    have hc : 4 * k + q < 24 := by omega
    have m4 : ((4 : Int32) * r).toInt = 4 * r.toInt := by
      rw [Int32.toInt_mul, v4]
      exact Int.bmod_eq_of_le (by omega) (by omega)
    have ec : ((4 : Int32) * r + x).toInt = ((4 * k + q : Nat) : Int) := by
      rw [Int32.toInt_add, m4]
      rw [Int.bmod_eq_of_le (by omega) (by omega)]
      omega
    have f2 : am_Wf I X A (am_upI (am_upI A1 21 q r) 23 q 0) := (f.m (by decide)).m (by decide)
    obtain ⟨o1, -, v, o3, -, -⟩ := openAs h f (a := (4 : Int32) * r + x) (c := 4 * k + q) hc ec
    obtain ⟨-, -, w, w1, -, w2⟩ := openAs h f2 (a := (4 : Int32) * r + x) (c := 4 * k + q) hc ec
    clear ec m4
    rw [LX8_seeks_s, if_neg r0, o1, Option.bind_some]
    simp only [if_pos g]
    unfold am_nx
    by_cases z : am_tk A (4 * k + q) = 0
    · rw [if_pos z, if_neg (fun f => f rfl), if_pos z]
      exact ih m (r + -1) (by omega) (by rw [i32_pred (by omega)]; omega) (by omega)
    · rw [if_neg z, if_pos (by decide), if_pos r1, exq, w2 z, Option.bind_some, Option.bind_some, if_neg z]
      refine ⟨r, w, rfl, by omega, fun _ => ?_⟩
      rw [w1]
      rfl
theorem nat_of {x : Int32} {q : Nat} (ex : x.toInt = (q : Int)) : x.toNatClampNeg = q := by
  have : x.toNatClampNeg = x.toInt.toNat := rfl
  omega
theorem col_next {x : Int32} {q : Nat} (hq : q < 6) (ex : x.toInt = (q : Int)) : (x + 1).toInt = ((q + 1 : Nat) : Int) := by
  rw [i32_succ (n := 24) (by omega) (by omega) (by omega)]
  omega
theorem cell_rc {r x : Int32} {k q : Nat} (hk : k < 6) (hq : q < 4) (er : r.toInt = (k : Int)) (ex : x.toInt = (q : Int)) : (r * (4 : Int32) + x).toInt = ((4 * k + q : Nat) : Int) := by
  have v4 : (4 : Int32).toInt = 4 := rfl
  have m : (r * (4 : Int32)).toInt = 4 * (k : Int) := by
    rw [Int32.toInt_mul, v4, er, Int.mul_comm]
    exact Int.bmod_eq_of_le (by omega) (by omega)
  rw [Int32.toInt_add, m, ex, Int.bmod_eq_of_le (by omega) (by omega)]
  omega
theorem cell_cr {r x : Int32} {k q : Nat} (hk : k < 6) (hq : q < 4) (er : r.toInt = (k : Int)) (ex : x.toInt = (q : Int)) : ((4 : Int32) * r + x).toInt = ((4 * k + q : Nat) : Int) := by
  rw [Int32.mul_comm]
  exact cell_rc hk hq er ex
theorem rows_sim {t : Nat} {I : am_mI} {J : am_mJ} {A : am_mI} {B : am_mJ} (h : am_Iv t I J A B) {Y : am_mI} (f : am_Wf I Y A A) {q : Nat} (hq : q < 4) {x : Int32} (ex : x.toInt = (q : Int)) : ∀ (k m j : Nat) (r s : Int32), j + k = 6 → r.toInt = (j : Int) → s.toInt = am_sm A q j →
    ∃ s' : Int32, LX6_begin (m + k + 1) 1 (am_upI Y 36 q s) J 2 x r = LX6_begin m 0 (am_upI Y 36 q s') J 2 (x + 1) 0 ∧ s'.toInt = am_sm A q 6 := by
  have g := col_in (x := x) (by omega) (by omega)
  have exq := nat_of ex
  intro k
  induction k with
  | zero =>
    intro m j r s hj er es
    have v6 : (6 : Int32).toInt = 6 := rfl
    have z : (6 : Int32) ≤ r := by
      rw [Int32.le_iff_toInt_le]
      omega
    refine ⟨s, ?_, ?_⟩
    · rw [LX6_begin_s1, if_pos z]
    · rw [es, show j = 6 by omega]
  | succ k ih =>
    intro m j r s hj er es
    have v6 : (6 : Int32).toInt = 6 := rfl
    have z : ¬ (6 : Int32) ≤ r := by
      rw [Int32.le_iff_toInt_le]
      omega
    have hc : 4 * j + q < 24 := by omega
    have f2 : am_Wf I (am_upI Y 36 q s) A A := f.x (by decide)
    obtain ⟨-, -, v, v1, v2, -⟩ := openAs h f2 (a := r * (4 : Int32) + x) hc (cell_rc (by omega) hq er ex)
    have b1 := sm_le h hq j (by omega)
    have b2 := (h.tk hc).1
    have es2 : (s + v).toInt = am_sm A q (j + 1) := by
      rw [Int32.toInt_add, es, v1]
      show _ = ((am_tk A (4 * j + q) + am_sm A q j : Nat) : Int)
      rw [Int.bmod_eq_of_le (by omega) (by omega)]
      omega
    obtain ⟨s', w1, w2⟩ := ih m (j + 1) (r + 1) (s + v) (by omega) (col_next (by omega) er) es2
    refine ⟨s', ?_, w2⟩
    rw [show m + (k + 1) + 1 = (m + k + 1) + 1 from rfl, LX6_begin_s1, if_neg z, if_pos g, v2, Option.bind_some, if_pos g, exq, am_upI_yes, am_upI_twice]
    exact w1
theorem begin_sim {t : Nat} {I : am_mI} {J : am_mJ} {A : am_mI} {B : am_mJ} (h : am_Iv t I J A B) : ∀ (k m q : Nat) (x : Int32) (X : am_mI), q + k = 4 → x.toInt = (q : Int) → am_Wf I X A A → (∀ p, p < q → X 35 p = 5 ∧ X 37 p = -1 ∧ (X 36 p).toInt = am_sm A p 6) →
    ∃ X' : am_mI, LX6_begin (m + 8 * k + 1) 0 X J 2 x 0 = some (0, X', J) ∧ am_Wf I X' A A ∧ ∀ p, p < 4 → X' 35 p = 5 ∧ X' 37 p = -1 ∧ (X' 36 p).toInt = am_sm A p 6 := by
  intro k
  induction k with
  | zero =>
    intro m q x X hq ex f hp
    have v4 : (4 : Int32).toInt = 4 := rfl
    have z : (4 : Int32) ≤ x := by
      rw [Int32.le_iff_toInt_le]
      omega
    refine ⟨X, ?_, f, fun p h4 => hp p (by omega)⟩
    rw [LX6_begin_s0, if_pos z]
  | succ k ih =>
    intro m q x X hq ex f hp
    have v4 : (4 : Int32).toInt = 4 := rfl
    have z : ¬ (4 : Int32) ≤ x := by
      rw [Int32.le_iff_toInt_le]
      omega
    have g := col_in (x := x) (by omega) (by omega)
    have exq := nat_of ex
    have fY : am_Wf I (am_upI (am_upI X 35 q 5) 37 q (-1)) A A := (f.x (by decide)).x (by decide)
    obtain ⟨s', w1, w2⟩ := rows_sim h fY (by omega) ex 6 (m + 8 * k + 1) 0 0 0 (by decide) (by decide) rfl
    obtain ⟨X', r1, r2, r3⟩ := ih m (q + 1) (x + 1) (am_upI (am_upI (am_upI X 35 q 5) 37 q (-1)) 36 q s') (by omega) (col_next (by omega) ex) (fY.x (by decide)) (fun p h4 => by
      by_cases e : p = q
      · subst e
        refine ⟨?_, ?_, ?_⟩
        · rw [am_upI_ne (a := 35) (by decide), am_upI_ne (a := 35) (by decide), am_upI_yes]
        · rw [am_upI_ne (a := 37) (by decide), am_upI_yes]
        · rw [am_upI_yes]
          exact w2
      · rw [am_upI_ne (a := 35) (by decide), am_upI_ne (a := 35) (by decide), am_upI_no e, am_upI_ne (a := 37) (by decide), am_upI_no e, am_upI_ne (a := 37) (by decide), am_upI_no e, am_upI_ne (a := 36) (by decide), am_upI_ne (a := 36) (by decide)]
        exact hp p (by omega))
    refine ⟨X', ?_, r2, r3⟩
    rw [show m + 8 * (k + 1) + 1 = (m + 8 * k + 1 + 6 + 1) + 1 by omega, LX6_begin_s0, if_neg z]
    simp only [if_pos g]
    rw [Option.bind_some, exq, w1, r1]
theorem mbegin_sim {t : Nat} {I : am_mI} {J : am_mJ} {A : am_mI} {B : am_mJ} (h : am_Iv t I J A B) {w : Int32} : ∀ (k m q : Nat) (x : Int32) (A1 : am_mI), q + k = 4 → x.toInt = (q : Int) → am_Wf I I A A1 → (∀ p, p < q → (A1 21 p).toInt = (am_nx A p 6 : Int) - 1 ∧ A1 23 p = 0 ∧ (am_nx A p 6 ≠ 0 → (A1 22 p).toInt = am_tk A (4 * (am_nx A p 6 - 1) + p))) →
    ∃ A2 : am_mI, LX8_doneBy (m + k + 1) 0 A1 B w x 0 0 0 0 = LX8_doneBy m 1 A2 B 0 w 0 0 0 0 ∧ am_Wf I I A A2 ∧ ∀ p, p < 4 → (A2 21 p).toInt = (am_nx A p 6 : Int) - 1 ∧ A2 23 p = 0 ∧ (am_nx A p 6 ≠ 0 → (A2 22 p).toInt = am_tk A (4 * (am_nx A p 6 - 1) + p)) := by
  intro k
  induction k with
  | zero =>
    intro m q x A1 hq ex f hp
    have v4 : (4 : Int32).toInt = 4 := rfl
    have z : (4 : Int32) ≤ x := by
      rw [Int32.le_iff_toInt_le]
      omega
    refine ⟨A1, ?_, f, fun p h4 => hp p (by omega)⟩
    rw [LX8_doneBy_s0, if_pos z]
  | succ k ih =>
    intro m q x A1 hq ex f hp
    have v4 : (4 : Int32).toInt = 4 := rfl
    have z : ¬ (4 : Int32) ≤ x := by
      rw [Int32.le_iff_toInt_le]
      omega
    obtain ⟨u, v, s1, s2, s3⟩ := seek_sim h f (q := q) (by omega) ex 6 am_FU 5 (by decide) (by decide) (by decide)
    obtain ⟨A2, r1, r2, r3⟩ := ih m (q + 1) (x + 1) (am_upI (am_upI (am_upI A1 21 q u) 23 q 0) 22 q v) (by omega) (col_next (by omega) ex) (((f.m (by decide)).m (by decide)).m (by decide)) (fun p h4 => by
      by_cases e : p = q
      · subst e
        refine ⟨?_, ?_, ?_⟩
        · rw [am_upI_ne (a := 21) (by decide), am_upI_ne (a := 21) (by decide), am_upI_yes]
          exact s2
        · rw [am_upI_ne (a := 23) (by decide), am_upI_yes]
        · rw [am_upI_yes]
          exact s3
      · rw [am_upI_ne (a := 21) (by decide), am_upI_ne (a := 21) (by decide), am_upI_no e, am_upI_ne (a := 23) (by decide), am_upI_no e, am_upI_no e, am_upI_ne (a := 22) (by decide), am_upI_ne (a := 22) (by decide)]
        exact hp p (by omega))
    refine ⟨A2, ?_, r2, r3⟩
    rw [show m + (k + 1) + 1 = (m + k + 1) + 1 from rfl, LX8_doneBy_s0, if_neg z]
    unfold DX8_seeks
    rw [s1, Option.bind_some]
    exact r1
/-- sums over the four columns -/
def am_s4 (f : Nat → Int) : Int := f 0 + f 1 + f 2 + f 3
theorem am_s4.one {f g : Nat → Int} {q : Nat} (hq : q < 4) (h : ∀ p, p ≠ q → f p = g p) : am_s4 f = am_s4 g + (f q - g q) := by
  have e : q = 0 ∨ q = 1 ∨ q = 2 ∨ q = 3 := by omega
  unfold am_s4
  rcases e with rfl | rfl | rfl | rfl
  · rw [h 1 (by decide), h 2 (by decide), h 3 (by decide)]
    omega
  · rw [h 0 (by decide), h 2 (by decide), h 3 (by decide)]
    omega
  · rw [h 0 (by decide), h 1 (by decide), h 3 (by decide)]
    omega
  · rw [h 0 (by decide), h 1 (by decide), h 2 (by decide)]
    omega
theorem am_s4.nn {f : Nat → Int} (h : ∀ q, q < 4 → 0 ≤ f q) : 0 ≤ am_s4 f := by
  have := h 0 (by decide)
  have := h 1 (by decide)
  have := h 2 (by decide)
  have := h 3 (by decide)
  unfold am_s4
  omega
theorem am_s4.zero {f : Nat → Int} (h : ∀ q, q < 4 → 0 ≤ f q) (z : am_s4 f = 0) : ∀ q, q < 4 → f q = 0 := by
  have h0 := h 0 (by decide)
  have h1 := h 1 (by decide)
  have h2 := h 2 (by decide)
  have h3 := h 3 (by decide)
  unfold am_s4 at z
  intro q hq
  have e : q = 0 ∨ q = 1 ∨ q = 2 ∨ q = 3 := by omega
  rcases e with rfl | rfl | rfl | rfl <;> omega
theorem am_s4.add (f g : Nat → Int) : am_s4 (fun q => f q + g q) = am_s4 f + am_s4 g := by
  unfold am_s4
  dsimp only
  omega
theorem am_s4.sub (f g : Nat → Int) : am_s4 (fun q => f q - g q) = am_s4 f - am_s4 g := by
  unfold am_s4
  dsimp only
  omega
theorem am_s4.cong {f g : Nat → Int} (h : ∀ q, q < 4 → f q = g q) : am_s4 f = am_s4 g := by
  unfold am_s4
  rw [h 0 (by decide), h 1 (by decide), h 2 (by decide), h 3 (by decide)]
/-- at work; work left -/
def am_w1 (X : am_mI) (q : Nat) : Int := if X 37 q = -1 then 0 else 1
def am_w2 (X : am_mI) (mm : Nat) (q : Nat) : Int := (X 36 q).toInt + (if X 37 q = -1 then 0 else (X 37 q).toInt - mm)
theorem col_ix {q : Nat} (hq : q < 4) : ∃ x : Int32, x.toInt = (q : Int) := by
  have e : q = 0 ∨ q = 1 ∨ q = 2 ∨ q = 3 := by omega
  rcases e with rfl | rfl | rfl | rfl
  · exact ⟨0, rfl⟩
  · exact ⟨1, rfl⟩
  · exact ⟨2, rfl⟩
  · exact ⟨3, rfl⟩
theorem or_bit {l : Int32} (h : l = 0 ∨ l = 1) : l ||| 0 = l ∧ l ||| 1 = 1 := by
  rcases h with rfl | rfl <;> decide
/-- a column after the finishing minute -/
theorem cl_low {A X A1 : am_mI} {mm lo q : Nat} (h : am_Cl A X A1 mm lo q) : (A1 21 q < 0 ∧ X 37 q = -1 ∧ (X 36 q).toInt = 0) ∨ (¬ A1 21 q < 0 ∧ (X 37 q = -1 → 0 < (X 36 q).toInt)) := by
  have v0 : (0 : Int32).toInt = 0 := rfl
  rcases h with ⟨k, h1, h2, h3, h4, h5, h6, h7⟩ | ⟨j, e, h1, h2, h3, h4, h5, h6, h7, h8, h9⟩
  · by_cases z : am_nx A q k = 0
    · left
      refine ⟨?_, h4, ?_⟩
      · rw [Int32.lt_iff_toInt_lt]
        omega
      · rw [h3, am_nx.nil A q k z]
        rfl
    · right
      refine ⟨?_, fun _ => ?_⟩
      · rw [Int32.lt_iff_toInt_lt]
        omega
      · have := am_nx.pos A q k z
        omega
  · right
    refine ⟨?_, fun f => ?_⟩
    · rw [Int32.lt_iff_toInt_lt]
      omega
    · exfalso
      rw [f] at h6
      have : (-1 : Int32).toInt = -1 := rfl
      omega
theorem finish_sim {t : Nat} {I : am_mI} {J : am_mJ} {A : am_mI} {B : am_mJ} (h : am_Iv t I J A B) {mI : Int32} {mm : Nat} (em : mI.toInt = (mm : Int)) (hmm : mm ≤ 1000) : ∀ (k m m2 q : Nat) (x s fr lf : Int32) (X A1 : am_mI), q + k = 4 → x.toInt = (q : Int) → k < m → am_Wf I X A A1 → (∀ p, p < 4 → am_Cl A X A1 mm (if p < q then mm + 1 else mm) p) →
    0 ≤ s.toInt → s.toInt ≤ q → 0 ≤ fr.toInt → fr.toInt + k ≤ 100 → (lf = 0 ∨ lf = 1) →
    ∃ (s' fr' lf' : Int32) (X' A2 : am_mI), LX6_finish m X J mI s x = some (s', X', J) ∧ LX8_doneBy (m2 + k + 1) 2 A1 B 0 fr mI lf x 0 = LX8_doneBy (m2 + 1) 2 A2 B 0 fr' mI lf' 4 0 ∧ am_Wf I X' A A2 ∧ (∀ p, p < 4 → am_Cl A X' A2 mm (mm + 1) p) ∧
      fr'.toInt - fr.toInt = s'.toInt - s.toInt ∧ s.toInt ≤ s'.toInt ∧ s'.toInt ≤ 4 ∧ am_s4 (am_w1 X') + s'.toInt = am_s4 (am_w1 X) + s.toInt ∧ am_s4 (am_w2 X' mm) = am_s4 (am_w2 X mm) ∧ (lf' = 0 ∨ lf' = 1) ∧
      (∀ p, p < q → A2 21 p = A1 21 p) ∧ (lf' = 0 → lf = 0 ∧ ∀ p, q ≤ p → p < 4 → A2 21 p < 0) ∧ (lf' = 1 → lf = 1 ∨ ∃ p, q ≤ p ∧ p < 4 ∧ ¬ A2 21 p < 0) := by
  have v0 : (0 : Int32).toInt = 0 := rfl
  have v1 : (1 : Int32).toInt = 1 := rfl
  have v4 : (4 : Int32).toInt = 4 := rfl
  have vn : (-1 : Int32).toInt = -1 := rfl
  intro k
  induction k with
  | zero =>
    intro m m2 q x s fr lf X A1 hq ex hm f hc s0 s1 f0 f1 hl
    obtain ⟨m, rfl⟩ : ∃ j, m = j + 1 := ⟨m - 1, by omega⟩
    have e4 : x = 4 := Int32.toInt_inj.mp (by omega)
    have z : (4 : Int32) ≤ x := by
      rw [Int32.le_iff_toInt_le]
      omega
    refine ⟨s, fr, lf, X, A1, ?_, ?_, f, fun p hp => ?_, by omega, Int.le_refl _, by omega, rfl, rfl, hl, fun _ _ => rfl, fun z => ⟨z, fun p h1 h2 => by omega⟩, fun z => Or.inl z⟩
    · rw [LX6_finish_s, if_pos z]
    · rw [e4, Nat.add_zero]
    · have := hc p hp
      rw [if_pos (by omega)] at this
      exact this
  | succ k ih =>
    intro m m2 q x s fr lf X A1 hq ex hm f hc s0 s1 f0 f1 hl
    obtain ⟨m, rfl⟩ : ∃ j, m = j + 1 := ⟨m - 1, by omega⟩
    have q4 : q < 4 := by omega
    have z : ¬ (4 : Int32) ≤ x := by
      rw [Int32.le_iff_toInt_le]
      omega
    have g := col_in (x := x) (by omega) (by omega)
    have exq := nat_of ex
    have x1 := col_next (by omega) ex
    obtain ⟨b0, b1⟩ := or_bit hl
    have hcq := hc q q4
    rw [if_neg (Nat.lt_irrefl q)] at hcq
    -- nothing ends here
    have stay : ¬ X 37 q = mI → am_Cl A X A1 mm (mm + 1) q → ∀ l2 : Int32, (l2 = 0 ∨ l2 = 1) → (l2 = 0 → lf = 0 ∧ A1 21 q < 0) → (l2 = 1 → lf = 1 ∨ ¬ A1 21 q < 0) → ∀ P : Option (Int32 × am_mI × am_mJ), P = LX8_doneBy (m2 + k + 1) 2 A1 B 0 fr mI l2 (x + 1) 0 →
        ∃ (s' fr' lf' : Int32) (X' A2 : am_mI), LX6_finish (m + 1) X J mI s x = some (s', X', J) ∧ P = LX8_doneBy (m2 + 1) 2 A2 B 0 fr' mI lf' 4 0 ∧ am_Wf I X' A A2 ∧ (∀ p, p < 4 → am_Cl A X' A2 mm (mm + 1) p) ∧
          fr'.toInt - fr.toInt = s'.toInt - s.toInt ∧ s.toInt ≤ s'.toInt ∧ s'.toInt ≤ 4 ∧ am_s4 (am_w1 X') + s'.toInt = am_s4 (am_w1 X) + s.toInt ∧ am_s4 (am_w2 X' mm) = am_s4 (am_w2 X mm) ∧ (lf' = 0 ∨ lf' = 1) ∧
          (∀ p, p < q → A2 21 p = A1 21 p) ∧ (lf' = 0 → lf = 0 ∧ ∀ p, q ≤ p → p < 4 → A2 21 p < 0) ∧ (lf' = 1 → lf = 1 ∨ ∃ p, q ≤ p ∧ p < 4 ∧ ¬ A2 21 p < 0) := by
      intro n1 cl l2 hl2 hz ho P hP
      obtain ⟨s', fr', lf', X', A2, r1, r2, r3, r4, r5, r6, r7, r8, r9, r10, r11, r12, r13⟩ := ih m m2 (q + 1) (x + 1) s fr l2 X A1 (by omega) x1 (by omega) f (fun p hp => by
        by_cases e : p = q
        · rw [e, if_pos (by omega)]
          exact cl
        · have := hc p hp
          by_cases c : p < q
          · rw [if_pos c] at this
            rw [if_pos (by omega)]
            exact this
          · rw [if_neg c] at this
            rw [if_neg (by omega)]
            exact this) s0 (by omega) f0 (by omega) hl2
      refine ⟨s', fr', lf', X', A2, ?_, hP.trans r2, r3, r4, r5, r6, r7, r8, r9, r10, fun p hp => r11 p (by omega), fun y => ?_, fun y => ?_⟩
      · rw [LX6_finish_s, if_neg z, if_pos g, exq, if_pos n1]
        exact r1
      · obtain ⟨y1, y2⟩ := r12 y
        obtain ⟨y3, y4⟩ := hz y1
        refine ⟨y3, fun p h1 h2 => ?_⟩
        by_cases e : p = q
        · rw [e, r11 q (by omega)]
          exact y4
        · exact y2 p (by omega) h2
      · rcases r13 y with y1 | ⟨p, h1, h2, h3⟩
        · rcases ho y1 with y2 | y2
          · exact Or.inl y2
          · exact Or.inr ⟨q, Nat.le_refl q, q4, by rw [r11 q (by omega)]; exact y2⟩
        · exact Or.inr ⟨p, by omega, h2, h3⟩
    rw [show m2 + (k + 1) + 1 = (m2 + k + 1) + 1 from rfl, LX8_doneBy_s2, if_neg z]
    simp only [if_pos g]
    rw [exq]
    rcases hcq with ⟨j, h1, h2, h3, h4, h5, h6, h7⟩ | ⟨j, e, h1, h2, h3, h4, h5, h6, h7, h8, h9⟩
    · have n1 : ¬ X 37 q = mI := by
        rw [h4]
        intro y
        rw [← y] at em
        omega
      have cl : am_Cl A X A1 mm (mm + 1) q := Or.inl ⟨j, h1, h2, h3, h4, h5, h6, h7⟩
      by_cases y : A1 21 q < 0
      · rw [if_pos y, if_pos y]
        exact stay n1 cl lf hl (fun w => ⟨w, y⟩) (fun w => Or.inl w) _ (by rw [b0])
      · rw [if_neg y, if_pos (show ¬ A1 23 q = 1 by rw [h6]; decide), if_neg y]
        exact stay n1 cl 1 (Or.inr rfl) (fun w => absurd w (by decide)) (fun _ => Or.inr y) _ (by rw [b1])
    · have y : ¬ A1 21 q < 0 := by
        rw [Int32.lt_iff_toInt_lt]
        omega
      rw [if_neg y, if_neg (show ¬ ¬ A1 23 q = 1 by rw [h8]; exact fun f => f rfl)]
      by_cases ee : e = mm
      · have n2 : A1 22 q = 0 := Int32.toInt_inj.mp (by omega)
        have n1 : X 37 q = mI := Int32.toInt_inj.mp (by omega)
        have rj : (A1 21 q - 1).toInt = (j : Int) - 1 := by
          rw [Int32.toInt_sub, h7, v1]
          exact Int.bmod_eq_of_le (by omega) (by omega)
        obtain ⟨u, v, t1, t2, t3⟩ := seek_sim h f q4 ex j am_FU (A1 21 q - 1) (by omega) rj (by have : am_FU = 1000000 := rfl; omega)
        clear rj
        rw [if_neg (not_not_intro n2)]
        unfold DX8_seeks
        rw [t1, Option.bind_some]
        dsimp only
        have fr1 : (fr + 1).toInt = fr.toInt + 1 := i32_succ (n := 200) (by omega) (by omega) (by omega)
        have s11 : (s + 1).toInt = s.toInt + 1 := i32_succ (n := 200) (by omega) (by omega) (by omega)
        have e21 : am_upI (am_upI (am_upI A1 21 q u) 23 q 0) 22 q v 21 q = u := by
          rw [am_upI_ne (a := 21) (by decide), am_upI_ne (a := 21) (by decide), am_upI_yes]
        have p21 : ∀ p, p ≠ q → am_upI (am_upI (am_upI A1 21 q u) 23 q 0) 22 q v 21 p = A1 21 p := fun p hp => by
          rw [am_upI_ne (a := 21) (by decide), am_upI_ne (a := 21) (by decide), am_upI_no hp]
        have f2 : am_Wf I (am_upI X 37 q (-1)) A (am_upI (am_upI (am_upI A1 21 q u) 23 q 0) 22 q v) := ((((f.x (by decide)).m (by decide)).m (by decide)).m (by decide))
        have cl : am_Cl A (am_upI X 37 q (-1)) (am_upI (am_upI (am_upI A1 21 q u) 23 q 0) 22 q v) mm (mm + 1) q := by
          refine Or.inl ⟨j, by omega, ?_, ?_, am_upI_yes, ?_, ?_, ?_⟩
          · rw [am_upI_ne (a := 35) (by decide)]
            exact h4
          · rw [am_upI_ne (a := 36) (by decide)]
            exact h5
          · rw [e21]
            exact t2
          · rw [am_upI_ne (a := 23) (by decide), am_upI_yes]
          · rw [am_upI_yes]
            exact t3
        have cls : ∀ p, p < 4 → am_Cl A (am_upI X 37 q (-1)) (am_upI (am_upI (am_upI A1 21 q u) 23 q 0) 22 q v) mm (if p < q + 1 then mm + 1 else mm) p := by
          intro p hp
          by_cases e : p = q
          · rw [e, if_pos (by omega)]
            exact cl
          · have := hc p hp
            have w := this.cong (X' := am_upI X 37 q (-1)) (A1' := am_upI (am_upI (am_upI A1 21 q u) 23 q 0) 22 q v) (by rw [am_upI_ne (a := 35) (by decide)]) (by rw [am_upI_ne (a := 36) (by decide)]) (by rw [am_upI_no e]) (p21 p e) (by rw [am_upI_no e, am_upI_ne (a := 22) (by decide), am_upI_ne (a := 22) (by decide)]) (by rw [am_upI_ne (a := 23) (by decide), am_upI_no e, am_upI_ne (a := 23) (by decide)])
            by_cases c : p < q
            · rw [if_pos c] at w
              rw [if_pos (by omega)]
              exact w
            · rw [if_neg c] at w
              rw [if_neg (by omega)]
              exact w
        have sw1 : am_s4 (am_w1 (am_upI X 37 q (-1))) = am_s4 (am_w1 X) - 1 := by
          rw [am_s4.one (f := am_w1 (am_upI X 37 q (-1))) (g := am_w1 X) q4 (fun p hp => by
            unfold am_w1
            rw [am_upI_no hp])]
          have a1 : am_w1 (am_upI X 37 q (-1)) q = 0 := if_pos am_upI_yes
          have a2 : am_w1 X q = 1 := if_neg (fun y => by rw [y] at h6; omega)
          omega
        have sw2 : am_s4 (am_w2 (am_upI X 37 q (-1)) mm) = am_s4 (am_w2 X mm) := by
          rw [am_s4.one (f := am_w2 (am_upI X 37 q (-1)) mm) (g := am_w2 X mm) q4 (fun p hp => by
            unfold am_w2
            rw [am_upI_no hp, am_upI_ne (a := 36) (by decide)])]
          have a1 : am_w2 (am_upI X 37 q (-1)) mm q = (X 36 q).toInt := by
            unfold am_w2
            rw [am_upI_yes, if_pos rfl, am_upI_ne (a := 36) (by decide), Int.add_zero]
          have a2 : am_w2 X mm q = (X 36 q).toInt := by
            unfold am_w2
            rw [if_neg (fun y => by rw [y] at h6; omega), h6, ee]
            omega
          omega
        have go : ∀ l2 : Int32, (l2 = 0 ∨ l2 = 1) → (l2 = 0 → lf = 0 ∧ u < 0) → (l2 = 1 → lf = 1 ∨ ¬ u < 0) → ∀ P : Option (Int32 × am_mI × am_mJ), P = LX8_doneBy (m2 + k + 1) 2 (am_upI (am_upI (am_upI A1 21 q u) 23 q 0) 22 q v) B 0 (fr + 1) mI l2 (x + 1) 0 →
            ∃ (s' fr' lf' : Int32) (X' A2 : am_mI), LX6_finish (m + 1) X J mI s x = some (s', X', J) ∧ P = LX8_doneBy (m2 + 1) 2 A2 B 0 fr' mI lf' 4 0 ∧ am_Wf I X' A A2 ∧ (∀ p, p < 4 → am_Cl A X' A2 mm (mm + 1) p) ∧
              fr'.toInt - fr.toInt = s'.toInt - s.toInt ∧ s.toInt ≤ s'.toInt ∧ s'.toInt ≤ 4 ∧ am_s4 (am_w1 X') + s'.toInt = am_s4 (am_w1 X) + s.toInt ∧ am_s4 (am_w2 X' mm) = am_s4 (am_w2 X mm) ∧ (lf' = 0 ∨ lf' = 1) ∧
              (∀ p, p < q → A2 21 p = A1 21 p) ∧ (lf' = 0 → lf = 0 ∧ ∀ p, q ≤ p → p < 4 → A2 21 p < 0) ∧ (lf' = 1 → lf = 1 ∨ ∃ p, q ≤ p ∧ p < 4 ∧ ¬ A2 21 p < 0) := by
          intro l2 hl2 hz ho P hP
          obtain ⟨s', fr', lf', X', A2, r1, r2, r3, r4, r5, r6, r7, r8, r9, r10, r11, r12, r13⟩ := ih m m2 (q + 1) (x + 1) (s + 1) (fr + 1) l2 _ _ (by omega) x1 (by omega) f2 cls (by omega) (by omega) (by omega) (by omega) hl2
          refine ⟨s', fr', lf', X', A2, ?_, hP.trans r2, r3, r4, by omega, by omega, r7, by omega, r9.trans sw2, r10, fun p hp => (r11 p (by omega)).trans (p21 p (by omega)), fun y => ?_, fun y => ?_⟩
          · rw [LX6_finish_s, if_neg z]
            simp only [if_pos g]
            rw [exq, if_neg (not_not_intro n1)]
            exact r1
          · obtain ⟨y1, y2⟩ := r12 y
            obtain ⟨y3, y4⟩ := hz y1
            refine ⟨y3, fun p h1 h2 => ?_⟩
            by_cases e : p = q
            · rw [e, r11 q (by omega), e21]
              exact y4
            · exact y2 p (by omega) h2
          · rcases r13 y with y1 | ⟨p, h1, h2, h3⟩
            · rcases ho y1 with y2 | y2
              · exact Or.inl y2
              · exact Or.inr ⟨q, Nat.le_refl q, q4, by rw [r11 q (by omega), e21]; exact y2⟩
            · exact Or.inr ⟨p, by omega, h2, h3⟩
        by_cases y : u < 0
        · rw [if_pos (show am_upI (am_upI (am_upI A1 21 q u) 23 q 0) 22 q v 21 q < 0 by rw [e21]; exact y)]
          exact go lf hl (fun w => ⟨w, y⟩) (fun w => Or.inl w) _ (by rw [b0])
        · rw [if_neg (show ¬ am_upI (am_upI (am_upI A1 21 q u) 23 q 0) 22 q v 21 q < 0 by rw [e21]; exact y)]
          exact go 1 (Or.inr rfl) (fun w => absurd w (by decide)) (fun _ => Or.inr y) _ (by rw [b1])
      · have n2 : ¬ A1 22 q = 0 := fun w => by
          rw [w] at h9
          omega
        have n1 : ¬ X 37 q = mI := fun w => by
          rw [w] at h6
          omega
        rw [if_pos n2, if_neg y]
        exact stay n1 (Or.inr ⟨j, e, h1, by omega, h3, h4, h5, h6, h7, h8, h9⟩) 1 (Or.inr rfl) (fun w => absurd w (by decide)) (fun _ => Or.inr y) _ (by rw [b1])
