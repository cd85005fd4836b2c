/-! SENTENCES: acts -/
theorem LX0_runBody_s (n : Nat) (I : (Nat → Nat → Int32)) (J : (Nat → Nat → Int64)) (a1 : Int32) (a2 : Int32) (a3 : Int32) (a4 : Int32) : LX0_runBody (n + 1) I J a1 a2 a3 a4 =
    if a4 ≤ (40 : Int32) then
      (DX0_kindWithBody I a1 a2).bind fun q1 =>
      (DX0_ownBody I a1 q1).bind fun q2 =>
      (DX2_above I q1).bind fun q3 =>
      (DX0_noteBegun I J q2).bind fun q4 =>
      if q2 = 10 then
        (some ((a3 + (q4.2.1 38 3)), q4.2.1, q4.2.2))
      else if q2 = 11 then
        ((LX0_runBody n q4.2.1 q4.2.2 ((0 : Int32)) ((I 38 2)) a3 ((a4 + (1 : Int32)))).bind fun q5 =>
        some ((q5.1 * (2 : Int32)), q5.2.1, q5.2.2))
      else if q2 = 12 then
        ((LX0_runBody n q4.2.1 q4.2.2 ((1 : Int32)) ((I 38 2)) a3 ((a4 + (1 : Int32)))).bind fun q6 =>
        (LX0_runBody n q6.2.1 q6.2.2 ((0 : Int32)) ((I 38 2)) ((a3 - (q6.2.1 38 4))) ((a4 + (1 : Int32)))).bind fun q7 =>
        some ((q6.1 ^^^ q7.1), q7.2.1, q7.2.2))
      else if q2 = 20 then
        ((LX0_runBody n q4.2.1 q4.2.2 ((0 : Int32)) q3 a3 ((a4 + (1 : Int32)))).bind fun q8 =>
        some ((q8.1 + (q8.2.1 38 4)), q8.2.1, q8.2.2))
      else if q2 = 30 then
        ((LX0_runBody n q4.2.1 q4.2.2 ((1 : Int32)) q3 a3 ((a4 + (1 : Int32)))).bind fun q9 =>
        some ((q9.1 * (3 : Int32)), q9.2.1, q9.2.2))
      else if q2 = 40 then
        ((LX0_runBody n q4.2.1 q4.2.2 ((1 : Int32)) q3 ((a3 + (1 : Int32))) ((a4 + (1 : Int32)))).bind fun q10 =>
        some (q10.1, q10.2.1, q10.2.2))
      else if q2 = 50 then
        ((LX0_runBody n q4.2.1 q4.2.2 ((2 : Int32)) q3 a3 ((a4 + (1 : Int32)))).bind fun q11 =>
        some ((-q11.1), q11.2.1, q11.2.2))
      else if q2 = 51 then
        ((LX0_runBody n q4.2.1 q4.2.2 ((0 : Int32)) q3 a3 ((a4 + (1 : Int32)))).bind fun q12 =>
        some ((q12.1 - (q12.2.1 38 3)), q12.2.1, q12.2.2))
      else if q2 = 60 then
        ((LX0_runBody n q4.2.1 q4.2.2 ((2 : Int32)) q3 a3 ((a4 + (1 : Int32)))).bind fun q13 =>
        some ((q13.1 ^^^ (5 : Int32)), q13.2.1, q13.2.2))
      else if q2 = 70 then
        ((LX0_runBody n q4.2.1 q4.2.2 ((0 : Int32)) q3 a3 ((a4 + (1 : Int32)))).bind fun q14 =>
        some ((q14.1 * (2 : Int32)), q14.2.1, q14.2.2))
      else if q2 = 71 then
        ((LX0_runBody n q4.2.1 q4.2.2 ((1 : Int32)) q3 ((a3 - (q4.2.1 38 4))) ((a4 + (1 : Int32)))).bind fun q15 =>
        some (q15.1, q15.2.1, q15.2.2))
      else some ((0 : Int32), q4.2.1, q4.2.2)
    else
      some ((0 : Int32), I, J) := rfl
theorem LX0_kindWithBody_s (n : Nat) (I : (Nat → Nat → Int32)) (x0 : Int32) (x2 : Int32) (x3 : Int32) : LX0_kindWithBody (n + 1) I x0 x2 x3 =
    if (7 : Int32) ≤ x3 then
      some x2
    else
      if x2 = (-1 : Int32) then
        some x2
      else
        (DX0_ownBody I x0 x2).bind fun q3 =>
        if ¬ q3 = 0 then
          some x2
        else
          (DX2_above I x2).bind fun q4 =>
          LX0_kindWithBody n I x0 q4 ((x3 + (1 : Int32))) := rfl
theorem LX8_laying_s0 (n : Nat) (I : (Nat → Nat → Int32)) (J : (Nat → Nat → Int64)) (x1 : Int32) (x3 : Int32) (x4 : Int32) : LX8_laying (n + 1) 0 I J x1 x3 x4 =
    if x3 = (1 : Int32) then
      if ¬ (x1 < 0 ∨ 8 ≤ (x1).toNatClampNeg) then
        LX8_laying n 1 I J x1 x3 ((x4 + (I 4 (x1).toNatClampNeg)))
      else none
    else
      if ¬ x3 = (3 : Int32) then
        LX8_laying n 1 I J x1 x3 x4
      else
        if ¬ (x1 < 0 ∨ 8 ≤ (x1).toNatClampNeg) then
          LX8_laying n 1 I J x1 x3 ((x4 + (I 4 (x1).toNatClampNeg)))
        else none := rfl
theorem LX8_laying_s1 (n : Nat) (I : (Nat → Nat → Int32)) (J : (Nat → Nat → Int64)) (x1 : Int32) (x3 : Int32) (x4 : Int32) : LX8_laying (n + 1) 1 I J x1 x3 x4 =
    if x3 = (4 : Int32) then
      LX8_laying n 2 I J 0 x3 ((x4 - x1))
    else
      if ¬ x3 = (5 : Int32) then
        LX8_laying n 2 I J 0 x3 x4
      else
        LX8_laying n 2 I J 0 x3 ((x4 - x1)) := rfl
theorem LX8_laying_s2 (n : Nat) (I : (Nat → Nat → Int32)) (J : (Nat → Nat → Int64)) (x1 : Int32) (x3 : Int32) (x4 : Int32) : LX8_laying (n + 1) 2 I J x1 x3 x4 =
    if ¬ x3 = (6 : Int32) then
      some (x4, I, J)
    else
      some ((x4 * (2 : Int32)), I, J) := rfl
theorem LX8_fading_s (n : Nat) (I : (Nat → Nat → Int32)) (J : (Nat → Nat → Int64)) (x1 : Int32) (x4 : Int32) (x5 : Int32) : LX8_fading (n + 1) I J x1 x4 x5 =
    if x5 = 0 then
      (DX8_body I J ((11 : Int32))).bind fun q9 =>
      (DX8_laying q9.2.1 q9.2.2 x1 x4).bind fun q10 =>
      if x5 = 0 then
        some ((q10.1 * (2 : Int32)), q10.2.1, q10.2.2)
      else
        some (((q10.1 * (2 : Int32)) * (3 : Int32)), q10.2.1, q10.2.2)
    else
      (DX8_body I J ((30 : Int32))).bind fun q11 =>
      (DX8_body q11.2.1 q11.2.2 ((11 : Int32))).bind fun q12 =>
      (DX8_laying q12.2.1 q12.2.2 x1 x4).bind fun q13 =>
      if x5 = 0 then
        some ((q13.1 * (2 : Int32)), q13.2.1, q13.2.2)
      else
        some (((q13.1 * (2 : Int32)) * (3 : Int32)), q13.2.1, q13.2.2) := rfl
theorem LX8_showing_s (n : Nat) (I : (Nat → Nat → Int32)) (J : (Nat → Nat → Int64)) (x3 : Int32) (x4 : Int32) : LX8_showing (n + 1) I J x3 x4 =
    if ¬ x3 = (5 : Int32) then
      some (x4, I, J)
    else
      some ((x4 ^^^ (5 : Int32)), I, J) := rfl
theorem own_any (I I' : am_mI) (a k : Int32) : DX0_ownBody I a k = DX0_ownBody I' a k := rfl
theorem above_any (I I' : am_mI) (k : Int32) : DX2_above I k = DX2_above I' k := rfl
theorem kind_any (I I' : am_mI) : ∀ (n : Nat) (a k x : Int32), LX0_kindWithBody n I a k x = LX0_kindWithBody n I' a k x := by
  intro n
  induction n with
  | zero => intro a k x; rfl
  | succ n ih =>
    intro a k x
    rw [LX0_kindWithBody_s, LX0_kindWithBody_s, own_any I I']
    simp only [above_any I I', ih]
/-- the tables: whose body runs, which it is, and what is above -/
theorem act_tab {I : am_mI} {a k o b u : Int32} (h : DX0_kindWithBody (fun _ _ => 0) a k = some o ∧ DX0_ownBody (fun _ _ => 0) a o = some b ∧ DX2_above (fun _ _ => 0) o = some u) : DX0_kindWithBody I a k = some o ∧ DX0_ownBody I a o = some b ∧ DX2_above I o = some u :=
  ⟨(kind_any I _ _ _ _ _).trans h.1, h.2.1, h.2.2⟩
theorem am_Iv.acts {t : Nat} {I : am_mI} {J : am_mJ} {A : am_mI} {B : am_mJ} (h : am_Iv t I J A B) {I1 A1 : am_mI} (hI : ∀ k, k ≠ 38 → k ≠ 39 → I1 k = I k) (hA : ∀ k, k ≠ 0 → k ≠ 25 → A1 k = A k) (hA0 : ∀ q, q ≠ 37 → A1 0 q = A 0 q) (hac : am_Ac I1 A1) : am_Iv t I1 J A1 B := by
  refine ⟨?_, ?_, ?_, ?_, ?_, hac, ?_, ?_, (hA 17 (by decide) (by decide)).trans h.wd, ?_, ?_⟩
  · refine ⟨((hI 3 (by decide) (by decide)).trans h.bd.r0).trans (hA 2 (by decide) (by decide)).symm, ((hI 4 (by decide) (by decide)).trans h.bd.r1).trans (hA 3 (by decide) (by decide)).symm, ((hI 5 (by decide) (by decide)).trans h.bd.r2).trans (hA 4 (by decide) (by decide)).symm, ((hI 6 (by decide) (by decide)).trans h.bd.r3).trans (hA 5 (by decide) (by decide)).symm, ((hI 7 (by decide) (by decide)).trans h.bd.r4).trans (hA 6 (by decide) (by decide)).symm, ((hI 8 (by decide) (by decide)).trans h.bd.r5).trans (hA 7 (by decide) (by decide)).symm, ((hI 9 (by decide) (by decide)).trans h.bd.r6).trans (hA 8 (by decide) (by decide)).symm, ((hI 10 (by decide) (by decide)).trans h.bd.r7).trans (hA 9 (by decide) (by decide)).symm, ((hI 11 (by decide) (by decide)).trans h.bd.r8).trans (hA 10 (by decide) (by decide)).symm, ?_⟩
    have := h.bd.2.2.2.2.2.2.2.2.2
    unfold am_mn at this ⊢
    rw [hI 2 (by decide) (by decide), hA0 0 (by decide), hA0 1 (by decide), hA0 2 (by decide), hA0 3 (by decide), hA0 4 (by decide), hA0 5 (by decide)]
    exact this
  · have := h.rf
    unfold am_Rf at this ⊢
    rw [hI 40 (by decide) (by decide), hA 1 (by decide) (by decide)]
    exact this
  · rw [hI 0 (by decide) (by decide), hA0 6 (by decide)]
    exact h.ft
  · intro s hs
    have := h.sh s hs
    unfold am_Sh at this ⊢
    rw [hI (41 + 2 * s) (by omega) (by omega), hA 11 (by decide) (by decide), hA 12 (by decide) (by decide), hA 13 (by decide) (by decide), hA 14 (by decide) (by decide)]
    exact this
  · have := h.im
    unfold am_Im at this ⊢
    rw [hI 0 (by decide) (by decide), hA0 38 (by decide), hA 20 (by decide) (by decide), hI 22 (by decide) (by decide), hI 23 (by decide) (by decide), hI 24 (by decide) (by decide), hI 25 (by decide) (by decide), hI 26 (by decide) (by decide), hI 27 (by decide) (by decide), hI 28 (by decide) (by decide), hI 29 (by decide) (by decide), hI 30 (by decide) (by decide), hI 31 (by decide) (by decide)]
    exact this
  · refine h.rg.cong (fun q i hq hi => ?_) (fun q hq => hA0 q (by omega))
    unfold am_mr
    rw [hA (q + 2) (by omega) (by omega)]
  · intro f
    rw [hA0 38 (by decide)] at f
    have z : am_kr A1 = am_kr A := by
      funext q i
      unfold am_kr
      rw [hA 20 (by decide) (by decide)]
    have z2 : am_kn A1 = am_kn A := by
      funext q
      unfold am_kn
      rw [hA 20 (by decide) (by decide)]
    rw [z, z2]
    exact h.kg f
  · have := h.st
    unfold am_St at this ⊢
    rw [hA0 0 (by decide), hA 11 (by decide) (by decide), hA 14 (by decide) (by decide)]
    exact this
  · have := h.ot
    unfold am_Ot at this ⊢
    rw [hI 13 (by decide) (by decide), hI 14 (by decide) (by decide), hI 15 (by decide) (by decide), hI 16 (by decide) (by decide), hI 17 (by decide) (by decide), hI 18 (by decide) (by decide), hI 19 (by decide) (by decide), hI 20 (by decide) (by decide), hI 21 (by decide) (by decide), hA 2 (by decide) (by decide), hA 3 (by decide) (by decide), hA 4 (by decide) (by decide), hA 5 (by decide) (by decide), hA 6 (by decide) (by decide), hA 7 (by decide) (by decide), hA 8 (by decide) (by decide), hA 9 (by decide) (by decide), hA 10 (by decide) (by decide)]
    exact this
/-- what notes leave as it is; c more notes -/
def am_Nt (c : Int) (I I1 A A1 : am_mI) : Prop := (∀ q, q ≠ 1 → I1 38 q = I 38 q) ∧ (∀ k, k ≠ 0 → k ≠ 25 → A1 k = A k) ∧ (A1 0 37).toInt ≤ (A 0 37).toInt + c ∧ A1 0 0 = A 0 0
theorem am_Nt.trans {c d : Int} {I I1 I2 A A1 A2 : am_mI} (h : am_Nt c I I1 A A1) (g : am_Nt d I1 I2 A1 A2) : am_Nt (c + d) I I2 A A2 :=
  ⟨fun q hq => (g.1 q hq).trans (h.1 q hq), fun k h0 h1 => (g.2.1 k h0 h1).trans (h.2.1 k h0 h1), by have := h.2.2.1; have := g.2.2.1; omega, g.2.2.2.trans h.2.2.2⟩
theorem noteAs {t : Nat} {I : am_mI} {J : am_mJ} {A : am_mI} {B : am_mJ} (h : am_Iv t I J A B) (b : Int32) (hc : (A 0 37).toInt ≤ 900) : ∃ (I1 A1 : am_mI), DX0_noteBegun I J b = some (0, I1, J) ∧ DX8_body A B b = some (0, A1, B) ∧ am_Iv t I1 J A1 B ∧ am_Nt 1 I I1 A A1 := by
  obtain ⟨c1, ⟨c2, c3⟩, c4⟩ := h.ac
  have v0 : (0 : Int32).toInt = 0 := rfl
  have v20 : (20 : Int32).toInt = 20 := rfl
  have s : (A 0 37 + 1).toInt = (A 0 37).toInt + 1 := i32_succ (n := 1000) (by omega) (by omega) (by omega)
  unfold DX0_noteBegun DX8_body
  rw [c1, if_neg (show ¬ A 0 37 < 0 by rw [Int32.lt_iff_toInt_lt]; omega)]
  by_cases z : (20 : Int32) ≤ A 0 37
  · rw [if_pos z, if_pos z]
    refine ⟨_, _, rfl, rfl, h.acts (fun k h0 _ => am_upI_ne h0) (fun k h0 _ => am_upI_ne h0) (fun q hq => am_upI_no hq) ?_, fun q hq => am_upI_no hq, fun k h0 _ => am_upI_ne h0, ?_, am_upI_no (by decide)⟩
    · refine ⟨?_, ?_, fun i hi => ?_⟩
      · rw [am_upI_yes, am_upI_yes]
      · rw [am_upI_yes]
        omega
      · rw [am_upI_ne (by decide), am_upI_ne (by decide)]
        exact c4 i hi
    · rw [am_upI_yes]
      omega
  · have zz := z
    rw [Int32.le_iff_toInt_le] at zz
    have e9 : (A 0 37).toNatClampNeg = (A 0 37).toInt.toNat := rfl
    have g : ¬ (A 0 37 < 0 ∨ 20 ≤ (A 0 37).toNatClampNeg) := by
      rw [Int32.lt_iff_toInt_lt]
      omega
    rw [if_neg z, if_neg z, if_pos g, if_pos g, am_upI_ne (a := 38) (by decide), am_upI_ne (a := 0) (by decide), c1, Option.bind_some, Option.bind_some]
    refine ⟨_, _, rfl, rfl, h.acts (fun k h0 h1 => ?_) (fun k h0 h1 => ?_) (fun q hq => ?_) ?_, fun q hq => ?_, fun k h0 h1 => ?_, ?_, (am_upI_no (by decide)).trans (congrFun (am_upI_ne (by decide)) 0)⟩
    · rw [am_upI_ne h0, am_upI_ne h1]
    · rw [am_upI_ne h0, am_upI_ne h1]
    · rw [am_upI_no hq, am_upI_ne (by decide)]
    · refine ⟨?_, ?_, fun i hi => ?_⟩
      · rw [am_upI_yes, am_upI_yes]
      · rw [am_upI_yes]
        omega
      · rw [am_upI_ne (a := 39) (by decide), am_upI_ne (a := 25) (by decide), am_upI_at, am_upI_at]
        dsimp only
        rw [c4 i hi]
    · rw [am_upI_no hq, am_upI_ne (by decide)]
    · rw [am_upI_ne h0, am_upI_ne h1]
    · rw [am_upI_yes]
      omega
theorem runX {I I1 : am_mI} {J : am_mJ} {a k o b u x d : Int32} {n : Nat} (hd : d ≤ 40) (h : DX0_kindWithBody (fun _ _ => 0) a k = some o ∧ DX0_ownBody (fun _ _ => 0) a o = some b ∧ DX2_above (fun _ _ => 0) o = some u) (e : DX0_noteBegun I J b = some (0, I1, J)) :
    LX0_runBody (n + 1) I J a k x d =
      if b = 10 then some (x + I1 38 3, I1, J)
      else if b = 11 then (LX0_runBody n I1 J 0 (I 38 2) x (d + 1)).bind fun q => some (q.1 * 2, q.2.1, q.2.2)
      else if b = 12 then (LX0_runBody n I1 J 1 (I 38 2) x (d + 1)).bind fun p => (LX0_runBody n p.2.1 p.2.2 0 (I 38 2) (x - p.2.1 38 4) (d + 1)).bind fun q => some (p.1 ^^^ q.1, q.2.1, q.2.2)
      else if b = 20 then (LX0_runBody n I1 J 0 u x (d + 1)).bind fun q => some (q.1 + q.2.1 38 4, q.2.1, q.2.2)
      else if b = 30 then (LX0_runBody n I1 J 1 u x (d + 1)).bind fun q => some (q.1 * 3, q.2.1, q.2.2)
      else if b = 40 then (LX0_runBody n I1 J 1 u (x + 1) (d + 1)).bind fun q => some (q.1, q.2.1, q.2.2)
      else if b = 50 then (LX0_runBody n I1 J 2 u x (d + 1)).bind fun q => some (-q.1, q.2.1, q.2.2)
      else if b = 51 then (LX0_runBody n I1 J 0 u x (d + 1)).bind fun q => some (q.1 - q.2.1 38 3, q.2.1, q.2.2)
      else if b = 60 then (LX0_runBody n I1 J 2 u x (d + 1)).bind fun q => some (q.1 ^^^ 5, q.2.1, q.2.2)
      else if b = 70 then (LX0_runBody n I1 J 0 u x (d + 1)).bind fun q => some (q.1 * 2, q.2.1, q.2.2)
      else if b = 71 then (LX0_runBody n I1 J 1 u (x - I1 38 4) (d + 1)).bind fun q => some (q.1, q.2.1, q.2.2)
      else some (0, I1, J) := by
  obtain ⟨h1, h2, h3⟩ := act_tab (I := I) h
  rw [LX0_runBody_s, if_pos hd, h1, Option.bind_some, h2, Option.bind_some, h3, Option.bind_some, e, Option.bind_some]
theorem lay_end {A : am_mI} {B : am_mJ} {s k y : Int32} (g : ¬ (s < 0 ∨ 8 ≤ s.toNatClampNeg)) : LX8_laying am_FU 0 A B s k y = some ((if k = 6 then (if k = 4 ∨ k = 5 then (if k = 1 ∨ k = 3 then y + A 4 s.toNatClampNeg else y) - s else (if k = 1 ∨ k = 3 then y + A 4 s.toNatClampNeg else y)) * 2 else (if k = 4 ∨ k = 5 then (if k = 1 ∨ k = 3 then y + A 4 s.toNatClampNeg else y) - s else (if k = 1 ∨ k = 3 then y + A 4 s.toNatClampNeg else y))), A, B) := by
  obtain ⟨m, em, hm⟩ : ∃ m, am_FU = m + 1 + 1 + 1 ∧ 100 < m := by
    have q : am_FU = 1000000 := rfl
    exact ⟨am_FU - 3, by omega, by omega⟩
  rw [em]
  have e2 : ∀ y, LX8_laying (m + 1) 2 A B 0 k y = some ((if k = 6 then y * 2 else y), A, B) := by
    intro y
    rw [LX8_laying_s2]
    by_cases c : k = 6
    · rw [if_neg (not_not_intro c), if_pos c]
    · rw [if_pos c, if_neg c]
  have e1 : ∀ y, LX8_laying (m + 1 + 1) 1 A B s k y = LX8_laying (m + 1) 2 A B 0 k (if k = 4 ∨ k = 5 then y - s else y) := by
    intro y
    rw [LX8_laying_s1]
    by_cases c : k = 4
    · rw [if_pos c, if_pos (Or.inl c)]
    · rw [if_neg c]
      by_cases d : k = 5
      · rw [if_neg (not_not_intro d), if_pos (Or.inr d)]
      · rw [if_pos d, if_neg (fun z => z.elim c d)]
  have e0 : LX8_laying (m + 1 + 1 + 1) 0 A B s k y = LX8_laying (m + 1 + 1) 1 A B s k (if k = 1 ∨ k = 3 then y + A 4 s.toNatClampNeg else y) := by
    rw [LX8_laying_s0]
    by_cases c : k = 1
    · rw [if_pos c, if_pos g, if_pos (Or.inl c)]
    · rw [if_neg c]
      by_cases d : k = 3
      · rw [if_neg (not_not_intro d), if_pos g, if_pos (Or.inr d)]
      · rw [if_pos d, if_neg (fun z => z.elim c d)]
  rw [e0, e1, e2]
/-- a stuff and its numbers, as the acts of both know them -/
def am_Wh (I A : am_mI) (s k : Int32) : Prop := I 38 2 = k ∧ I 38 3 = s ∧ I 38 4 = A 4 s.toNatClampNeg ∧ A 2 s.toNatClampNeg = k
theorem am_Wh.nt {c : Int} {I I1 A A1 : am_mI} {s k : Int32} (w : am_Wh I A s k) (n : am_Nt c I I1 A A1) : am_Wh I1 A1 s k := by
  refine ⟨(n.1 2 (by decide)).trans w.1, (n.1 3 (by decide)).trans w.2.1, (n.1 4 (by decide)).trans (w.2.2.1.trans ?_), ?_⟩
  · rw [n.2.1 4 (by decide) (by decide)]
  · rw [n.2.1 2 (by decide) (by decide)]
    exact w.2.2.2
theorem lay_base {t : Nat} {I : am_mI} {J : am_mJ} {A : am_mI} {B : am_mJ} (h : am_Iv t I J A B) {s k f x d : Int32} {n : Nat} (hf : f = 0 ∨ f = 2) (w : am_Wh I A s k) (hc : (A 0 37).toInt ≤ 900) (hd : d ≤ 40) : ∃ (I1 A1 : am_mI), LX0_runBody (n + 1) I J 0 f x d = some (x + s, I1, J) ∧ DX8_body A B 10 = some (0, A1, B) ∧ am_Iv t I1 J A1 B ∧ am_Nt 1 I I1 A A1 := by
  obtain ⟨I1, A1, a1, a2, a3, a4⟩ := noteAs h 10 hc
  refine ⟨I1, A1, ?_, a2, a3, a4⟩
  rw [runX (o := 0) (b := 10) (u := -1) hd (by rcases hf with rfl | rfl <;> decide +kernel) a1, if_pos rfl, (w.nt a4).2.1]
theorem depth1 {d : Int32} {n : Int} (h0 : 0 ≤ d.toInt) (h1 : d.toInt ≤ n) (hn : n ≤ 39) : (d + 1).toInt = d.toInt + 1 ∧ d ≤ 40 ∧ d + 1 ≤ 40 := by
  have s : (d + 1).toInt = d.toInt + 1 := i32_succ (n := 50) (by omega) (by omega) (by omega)
  have v : (40 : Int32).toInt = 40 := rfl
  refine ⟨s, ?_, ?_⟩
  · rw [Int32.le_iff_toInt_le]
    omega
  · rw [Int32.le_iff_toInt_le]
    omega
theorem layAs {t : Nat} {I : am_mI} {J : am_mJ} {A : am_mI} {B : am_mJ} (h : am_Iv t I J A B) {s k x d : Int32} {n : Nat} (st : ¬ DX8_isStuff A s = 0) (w : am_Wh I A s k) (hc : (A 0 37).toInt ≤ 800) (hd : 0 ≤ d.toInt ∧ d.toInt ≤ 30) : ∃ (v : Int32) (I1 A1 : am_mI), LX0_runBody (n + 2) I J 0 k x d = some (v, I1, J) ∧ DX8_laying A B s x = some (v, A1, B) ∧ am_Iv t I1 J A1 B ∧ am_Nt 2 I I1 A A1 := by
  obtain ⟨g, -⟩ := stuffAt h st
  have hk := (h.kinds st).1
  obtain ⟨d1, d2, d3⟩ := depth1 (n := 30) hd.1 hd.2 (by decide)
  have ek := w.2.2.2
  rw [ek] at hk
  have e7 : k = 0 ∨ k = 1 ∨ k = 2 ∨ k = 3 ∨ k = 4 ∨ k = 5 ∨ k = 6 := by
    clear ek w
    ((try simp only [Int32.lt_iff_toInt_lt, Int32.le_iff_toInt_le, Int32.reduceToInt, ← Int32.toNat_toInt, ← Int32.toInt_inj] at *) <;> omega)
  have one : (f : k = 0 ∨ k = 2) → ∃ (v : Int32) (I1 A1 : am_mI), LX0_runBody (n + 2) I J 0 k x d = some (v, I1, J) ∧ DX8_laying A B s x = some (v, A1, B) ∧ am_Iv t I1 J A1 B ∧ am_Nt 2 I I1 A A1 := by
    intro f
    obtain ⟨I1, A1, a1, a2, a3, a4⟩ := lay_base h (n := n + 1) (x := x) (d := d) f w (by omega) d2
    refine ⟨x + s, I1, A1, a1, ?_, a3, a4.1, a4.2.1, by have := a4.2.2.1; omega, a4.2.2.2⟩
    unfold DX8_laying
    rw [if_pos g, ek]
    rcases f with rfl | rfl
    · simp +decide only [not_false_eq_true, not_true_eq_false, if_true, if_false]
      rw [a2, Option.bind_some, lay_end g]
      rfl
    · simp +decide only [not_false_eq_true, not_true_eq_false, if_true, if_false]
      rw [a2, Option.bind_some, lay_end g]
      rfl
  rcases e7 with rfl | rfl | rfl | rfl | rfl | rfl | rfl
  · exact one (Or.inl rfl)
  · obtain ⟨I1, A1, a1, a2, a3, a4⟩ := noteAs h 20 (by omega)
    have nc := a4.2.2.1
    obtain ⟨I2, A2, b1, b2, b3, b4⟩ := lay_base a3 (n := n) (f := 0) (x := x) (d := d + 1) (Or.inl rfl) (w.nt a4) (by omega) d3
    have w2 := (w.nt a4).nt b4
    refine ⟨x + s + A 4 s.toNatClampNeg, I2, A2, ?_, ?_, b3, a4.trans b4⟩
    · rw [show n + 2 = n + 1 + 1 from rfl, runX (o := 1) (b := 20) (u := 0) d2 (by decide +kernel) a1]
      simp +decide only [if_true, if_false]
      rw [b1, Option.bind_some]
      dsimp only
      rw [w2.2.2.1, b4.2.1 4 (by decide) (by decide), a4.2.1 4 (by decide) (by decide)]
    · unfold DX8_laying
      rw [if_pos g, ek]
      simp +decide only [not_false_eq_true, not_true_eq_false, if_true, if_false]
      rw [a2, Option.bind_some, b2, Option.bind_some, lay_end g]
      dsimp only
      rw [b4.2.1 4 (by decide) (by decide), a4.2.1 4 (by decide) (by decide)]
      rfl
  · exact one (Or.inr rfl)
  · obtain ⟨I1, A1, a1, a2, a3, a4⟩ := noteAs h 20 (by omega)
    have nc := a4.2.2.1
    obtain ⟨I2, A2, b1, b2, b3, b4⟩ := lay_base a3 (n := n) (f := 0) (x := x) (d := d + 1) (Or.inl rfl) (w.nt a4) (by omega) d3
    have w2 := (w.nt a4).nt b4
    refine ⟨x + s + A 4 s.toNatClampNeg, I2, A2, ?_, ?_, b3, a4.trans b4⟩
    · rw [show n + 2 = n + 1 + 1 from rfl, runX (o := 1) (b := 20) (u := 0) d2 (by decide +kernel) a1]
      simp +decide only [if_true, if_false]
      rw [b1, Option.bind_some]
      dsimp only
      rw [w2.2.2.1, b4.2.1 4 (by decide) (by decide), a4.2.1 4 (by decide) (by decide)]
    · unfold DX8_laying
      rw [if_pos g, ek]
      simp +decide only [not_false_eq_true, not_true_eq_false, if_true, if_false]
      rw [a2, Option.bind_some, b2, Option.bind_some, lay_end g]
      dsimp only
      rw [b4.2.1 4 (by decide) (by decide), a4.2.1 4 (by decide) (by decide)]
      rfl
  · obtain ⟨I1, A1, a1, a2, a3, a4⟩ := noteAs h 51 (by omega)
    have nc := a4.2.2.1
    obtain ⟨I2, A2, b1, b2, b3, b4⟩ := lay_base a3 (n := n) (f := 0) (x := x) (d := d + 1) (Or.inl rfl) (w.nt a4) (by omega) d3
    have w2 := (w.nt a4).nt b4
    refine ⟨x + s - s, I2, A2, ?_, ?_, b3, a4.trans b4⟩
    · rw [show n + 2 = n + 1 + 1 from rfl, runX (o := 4) (b := 51) (u := 0) d2 (by decide +kernel) a1]
      simp +decide only [if_true, if_false]
      rw [b1, Option.bind_some]
      dsimp only
      rw [w2.2.1]
    · unfold DX8_laying
      rw [if_pos g, ek]
      simp +decide only [not_false_eq_true, not_true_eq_false, if_true, if_false]
      rw [a2, Option.bind_some, b2, Option.bind_some, lay_end g]
      rfl
  · obtain ⟨I1, A1, a1, a2, a3, a4⟩ := noteAs h 51 (by omega)
    have nc := a4.2.2.1
    obtain ⟨I2, A2, b1, b2, b3, b4⟩ := lay_base a3 (n := n) (f := 0) (x := x) (d := d + 1) (Or.inl rfl) (w.nt a4) (by omega) d3
    have w2 := (w.nt a4).nt b4
    refine ⟨x + s - s, I2, A2, ?_, ?_, b3, a4.trans b4⟩
    · rw [show n + 2 = n + 1 + 1 from rfl, runX (o := 4) (b := 51) (u := 0) d2 (by decide +kernel) a1]
      simp +decide only [if_true, if_false]
      rw [b1, Option.bind_some]
      dsimp only
      rw [w2.2.1]
    · unfold DX8_laying
      rw [if_pos g, ek]
      simp +decide only [not_false_eq_true, not_true_eq_false, if_true, if_false]
      rw [a2, Option.bind_some, b2, Option.bind_some, lay_end g]
      rfl
  · obtain ⟨I1, A1, a1, a2, a3, a4⟩ := noteAs h 70 (by omega)
    have nc := a4.2.2.1
    obtain ⟨I2, A2, b1, b2, b3, b4⟩ := lay_base a3 (n := n) (f := 2) (x := x) (d := d + 1) (Or.inr rfl) (w.nt a4) (by omega) d3
    refine ⟨(x + s) * 2, I2, A2, ?_, ?_, b3, a4.trans b4⟩
    · rw [show n + 2 = n + 1 + 1 from rfl, runX (o := 6) (b := 70) (u := 2) d2 (by decide +kernel) a1]
      simp +decide only [if_true, if_false]
      rw [b1, Option.bind_some]
    · unfold DX8_laying
      rw [if_pos g, ek]
      simp +decide only [not_false_eq_true, not_true_eq_false, if_true, if_false]
      rw [a2, Option.bind_some, b2, Option.bind_some, lay_end g]
      rfl
theorem fade_base {t : Nat} {I : am_mI} {J : am_mJ} {A : am_mI} {B : am_mJ} (h : am_Iv t I J A B) {s k f x d : Int32} {n : Nat} (hf : f = 0 ∨ f = 1 ∨ f = 4 ∨ f = 5) (st : ¬ DX8_isStuff A s = 0) (w : am_Wh I A s k) (hc : (A 0 37).toInt ≤ 700) (hd : 0 ≤ d.toInt ∧ d.toInt ≤ 29) : ∃ (v : Int32) (I2 A1 A2 : am_mI), LX0_runBody (n + 2 + 1) I J 1 f x d = some (v * 2, I2, J) ∧ DX8_body A B 11 = some (0, A1, B) ∧ DX8_laying A1 B s x = some (v, A2, B) ∧ am_Iv t I2 J A2 B ∧ am_Nt 3 I I2 A A2 := by
  obtain ⟨d1, d2, d3⟩ := depth1 (n := 30) hd.1 (by omega) (by decide)
  obtain ⟨I1, A1, a1, a2, a3, a4⟩ := noteAs h 11 (by omega)
  have nc := a4.2.2.1
  have w1 := w.nt a4
  have st1 : ¬ DX8_isStuff A1 s = 0 := by
    have e : A1 0 0 = A 0 0 := a4.2.2.2
    unfold DX8_isStuff at st ⊢
    rw [e]
    exact st
  obtain ⟨v, I2, A2, b1, b2, b3, b4⟩ := layAs a3 (n := n) (x := x) (d := d + 1) st1 w1 (by omega) (by omega)
  refine ⟨v, I2, A1, A2, ?_, a2, b2, b3, a4.trans b4⟩
  rw [runX (o := 0) (b := 11) (u := -1) d2 (by rcases hf with rfl | rfl | rfl | rfl <;> decide +kernel) a1]
  simp +decide only [if_true, if_false]
  rw [w.1, b1, Option.bind_some]
theorem mfade0 {A : am_mI} {B : am_mJ} {s y : Int32} : LX8_fading am_FU A B s y 0 = (DX8_body A B 11).bind fun q => (DX8_laying q.2.1 q.2.2 s y).bind fun p => some (p.1 * 2, p.2.1, p.2.2) := by
  obtain ⟨m, em, -⟩ := am_FU1
  rw [em, LX8_fading_s, if_pos rfl]
  congr 1
theorem mfade1 {A : am_mI} {B : am_mJ} {s y : Int32} : LX8_fading am_FU A B s y 1 = (DX8_body A B 30).bind fun r => (DX8_body r.2.1 r.2.2 11).bind fun q => (DX8_laying q.2.1 q.2.2 s y).bind fun p => some (p.1 * 2 * 3, p.2.1, p.2.2) := by
  obtain ⟨m, em, -⟩ := am_FU1
  rw [em, LX8_fading_s, if_neg (show ¬ (1 : Int32) = 0 by decide)]
  congr 1
theorem st_nt {c : Int} {I I1 A A1 : am_mI} {s : Int32} (n : am_Nt c I I1 A A1) (st : ¬ DX8_isStuff A s = 0) : ¬ DX8_isStuff A1 s = 0 := by
  unfold DX8_isStuff at st ⊢
  rw [n.2.2.2]
  exact st
theorem am_Nt.le {c e : Int} {I I1 A A1 : am_mI} (n : am_Nt c I I1 A A1) (h : c ≤ e) : am_Nt e I I1 A A1 := ⟨n.1, n.2.1, by have := n.2.2.1; omega, n.2.2.2⟩
theorem fade_one {t : Nat} {I : am_mI} {J : am_mJ} {A : am_mI} {B : am_mJ} (h : am_Iv t I J A B) {s k x d : Int32} {n : Nat} (f : k = 0 ∨ k = 1 ∨ k = 4 ∨ k = 5) (st : ¬ DX8_isStuff A s = 0) (w : am_Wh I A s k) (hc : (A 0 37).toInt ≤ 600) (hd : 0 ≤ d.toInt ∧ d.toInt ≤ 20) : ∃ (v : Int32) (I1 A1 : am_mI), LX0_runBody (n + 5) I J 1 k x d = some (v, I1, J) ∧ DX8_fading A B s x = some (v, A1, B) ∧ am_Iv t I1 J A1 B ∧ am_Nt 5 I I1 A A1 := by
  obtain ⟨g, -⟩ := stuffAt h st
  have ek := w.2.2.2
  obtain ⟨v, I2, A1, A2, a1, a2, a3, a4, a5⟩ := fade_base h (n := n + 2) (f := k) (x := x) (d := d) f st w (by omega) (by omega)
  refine ⟨v * 2, I2, A2, a1, ?_, a4, a5.le (by decide)⟩
  unfold DX8_fading
  rw [if_pos g, ek]
  rcases f with rfl | rfl | rfl | rfl
  all_goals
    simp +decide only [not_false_eq_true, not_true_eq_false, if_true, if_false]
    rw [mfade0, a2, Option.bind_some]
    dsimp only
    rw [a3, Option.bind_some]
theorem fadeAs {t : Nat} {I : am_mI} {J : am_mJ} {A : am_mI} {B : am_mJ} (h : am_Iv t I J A B) {s k x d : Int32} {n : Nat} (st : ¬ DX8_isStuff A s = 0) (w : am_Wh I A s k) (hc : (A 0 37).toInt ≤ 600) (hd : 0 ≤ d.toInt ∧ d.toInt ≤ 20) : ∃ (v : Int32) (I1 A1 : am_mI), LX0_runBody (n + 5) I J 1 k x d = some (v, I1, J) ∧ DX8_fading A B s x = some (v, A1, B) ∧ am_Iv t I1 J A1 B ∧ am_Nt 5 I I1 A A1 := by
  obtain ⟨g, -⟩ := stuffAt h st
  have hk := (h.kinds st).1
  obtain ⟨d1, d2, d3⟩ := depth1 (n := 30) hd.1 (by omega) (by decide)
  have ek := w.2.2.2
  rw [ek] at hk
  have e7 : k = 0 ∨ k = 1 ∨ k = 2 ∨ k = 3 ∨ k = 4 ∨ k = 5 ∨ k = 6 := by
    clear ek w
    ((try simp only [Int32.lt_iff_toInt_lt, Int32.le_iff_toInt_le, Int32.reduceToInt, ← Int32.toNat_toInt, ← Int32.toInt_inj] at *) <;> omega)
  rcases e7 with rfl | rfl | rfl | rfl | rfl | rfl | rfl
  · exact fade_one h (by decide) st w hc hd
  · exact fade_one h (by decide) st w hc hd
  · obtain ⟨I1, A1, a1, a2, a3, a4⟩ := noteAs h 30 (by omega)
    have nc := a4.2.2.1
    have st1 := st_nt a4 st
    have w1 := w.nt a4
    obtain ⟨v, I2, A2, A3, b1, b2, b3, b4, b5⟩ := fade_base a3 (n := n + 1) (f := 0) (x := x) (d := d + 1) (Or.inl rfl) st1 w1 (by omega) (by omega)
    refine ⟨v * 2 * 3, I2, A3, ?_, ?_, b4, (a4.trans b5).le (by decide)⟩
    · rw [show n + 5 = (n + 1 + 2 + 1) + 1 from rfl, runX (o := 2) (b := 30) (u := 0) d2 (by decide +kernel) a1]
      simp +decide only [if_true, if_false]
      rw [b1, Option.bind_some]
    · unfold DX8_fading
      rw [if_pos g, ek]
      simp +decide only [not_false_eq_true, not_true_eq_false, if_true, if_false]
      rw [mfade1, a2, Option.bind_some]
      dsimp only
      rw [b2, Option.bind_some]
      dsimp only
      rw [b3, Option.bind_some]
  · obtain ⟨I1, A1, a1, a2, a3, a4⟩ := noteAs h 40 (by omega)
    have nc := a4.2.2.1
    have st1 := st_nt a4 st
    have w1 := w.nt a4
    obtain ⟨v, I2, A2, A3, b1, b2, b3, b4, b5⟩ := fade_base a3 (n := n + 1) (f := 1) (x := x + 1) (d := d + 1) (Or.inr (Or.inl rfl)) st1 w1 (by omega) (by omega)
    refine ⟨v * 2, I2, A3, ?_, ?_, b4, (a4.trans b5).le (by decide)⟩
    · rw [show n + 5 = (n + 1 + 2 + 1) + 1 from rfl, runX (o := 3) (b := 40) (u := 1) d2 (by decide +kernel) a1]
      simp +decide only [if_true, if_false]
      rw [b1, Option.bind_some]
    · unfold DX8_fading
      rw [if_pos g, ek]
      simp +decide only [not_false_eq_true, not_true_eq_false, if_true, if_false]
      rw [a2, Option.bind_some]
      dsimp only
      rw [mfade0, b2, Option.bind_some]
      dsimp only
      rw [b3, Option.bind_some]
  · exact fade_one h (by decide) st w hc hd
  · exact fade_one h (by decide) st w hc hd
  · obtain ⟨I1, A1, a1, a2, a3, a4⟩ := noteAs h 71 (by omega)
    have nc := a4.2.2.1
    have st1 := st_nt a4 st
    have w1 := w.nt a4
    obtain ⟨I2, A2, c1, c2, c3, c4⟩ := noteAs a3 30 (by omega)
    have nc2 := c4.2.2.1
    have st2 := st_nt c4 st1
    have w2 := w1.nt c4
    obtain ⟨d4, d5, d6⟩ := depth1 (d := d + 1) (n := 35) (by omega) (by omega) (by decide)
    obtain ⟨v, I3, A3, A4, b1, b2, b3, b4, b5⟩ := fade_base c3 (n := n) (f := 0) (x := x - A 4 s.toNatClampNeg) (d := d + 1 + 1) (Or.inl rfl) st2 w2 (by omega) (by omega)
    have e14 : I1 38 4 = A 4 s.toNatClampNeg := w1.2.2.1.trans (by rw [a4.2.1 4 (by decide) (by decide)])
    refine ⟨v * 2 * 3, I3, A4, ?_, ?_, b4, ((a4.trans c4).trans b5).le (by decide)⟩
    · rw [show n + 5 = (n + 2 + 1 + 1) + 1 from rfl, runX (o := 6) (b := 71) (u := 2) d2 (by decide +kernel) a1]
      simp +decide only [if_true, if_false]
      rw [runX (o := 2) (b := 30) (u := 0) d5 (by decide +kernel) c1]
      simp +decide only [if_true, if_false]
      rw [e14, b1, Option.bind_some, Option.bind_some]
    · unfold DX8_fading
      rw [if_pos g, ek]
      simp +decide only [not_false_eq_true, not_true_eq_false, if_true, if_false]
      rw [a2, Option.bind_some]
      dsimp only
      rw [if_pos g, a4.2.1 4 (by decide) (by decide), mfade1, c2, Option.bind_some]
      dsimp only
      rw [b2, Option.bind_some]
      dsimp only
      rw [b3, Option.bind_some]
theorem show_base {t : Nat} {I : am_mI} {J : am_mJ} {A : am_mI} {B : am_mJ} (h : am_Iv t I J A B) {s k f x d : Int32} {n : Nat} (hf : f = 0 ∨ f = 1 ∨ f = 2 ∨ f = 3 ∨ f = 6) (st : ¬ DX8_isStuff A s = 0) (w : am_Wh I A s k) (hc : (A 0 37).toInt ≤ 500) (hd : 0 ≤ d.toInt ∧ d.toInt ≤ 10) : ∃ (v u : Int32) (I2 A1 A2 A3 : am_mI), LX0_runBody (n + 5 + 1) I J 2 f x d = some (v ^^^ u, I2, J) ∧ DX8_body A B 12 = some (0, A1, B) ∧ DX8_fading A1 B s x = some (v, A2, B) ∧ DX8_laying A2 B s (x - A2 4 s.toNatClampNeg) = some (u, A3, B) ∧ am_Iv t I2 J A3 B ∧ am_Nt 8 I I2 A A3 := by
  obtain ⟨d1, d2, d3⟩ := depth1 (n := 30) hd.1 (by omega) (by decide)
  obtain ⟨I1, A1, a1, a2, a3, a4⟩ := noteAs h 12 (by omega)
  have nc := a4.2.2.1
  have w1 := w.nt a4
  have st1 := st_nt a4 st
  obtain ⟨v, I2, A2, b1, b2, b3, b4⟩ := fadeAs a3 (n := n) (x := x) (d := d + 1) st1 w1 (by omega) (by omega)
  have nc2 := b4.2.2.1
  have w2 := w1.nt b4
  have st2 := st_nt b4 st1
  obtain ⟨u, I3, A3, c1, c2, c3, c4⟩ := layAs b3 (n := n + 3) (x := x - A2 4 s.toNatClampNeg) (d := d + 1) st2 w2 (by omega) (by omega)
  refine ⟨v, u, I3, A1, A2, A3, ?_, a2, b2, c2, c3, ((a4.trans b4).trans c4).le (by decide)⟩
  rw [runX (o := 0) (b := 12) (u := -1) d2 (by rcases hf with rfl | rfl | rfl | rfl | rfl <;> decide +kernel) a1]
  simp +decide only [if_true, if_false]
  rw [w.1, b1, Option.bind_some]
  dsimp only
  rw [w2.2.2.1, show n + 5 = n + 3 + 2 from rfl, c1, Option.bind_some]
theorem mshow {A : am_mI} {B : am_mJ} {k y : Int32} : LX8_showing am_FU A B k y = some ((if k = 5 then y ^^^ 5 else y), A, B) := by
  obtain ⟨m, em, -⟩ := am_FU1
  rw [em, LX8_showing_s]
  by_cases c : k = 5
  · rw [if_neg (not_not_intro c), if_pos c]
  · rw [if_pos c, if_neg c]
theorem show_one {t : Nat} {I : am_mI} {J : am_mJ} {A : am_mI} {B : am_mJ} (h : am_Iv t I J A B) {s k x d : Int32} {n : Nat} (f : k = 0 ∨ k = 1 ∨ k = 2 ∨ k = 3 ∨ k = 6) (st : ¬ DX8_isStuff A s = 0) (w : am_Wh I A s k) (hc : (A 0 37).toInt ≤ 400) (hd : 0 ≤ d.toInt ∧ d.toInt ≤ 5) : ∃ (v : Int32) (I1 A1 : am_mI), LX0_runBody (n + 8) I J 2 k x d = some (v, I1, J) ∧ DX8_showing A B s x = some (v, A1, B) ∧ am_Iv t I1 J A1 B ∧ am_Nt 10 I I1 A A1 := by
  obtain ⟨g, -⟩ := stuffAt h st
  have ek := w.2.2.2
  obtain ⟨v, u, I2, A1, A2, A3, a1, a2, a3, a4, a5, a6⟩ := show_base h (n := n + 2) (f := k) (x := x) (d := d) f st w (by omega) (by omega)
  refine ⟨v ^^^ u, I2, A3, a1, ?_, a5, a6.le (by decide)⟩
  unfold DX8_showing
  rw [if_pos g, ek]
  rcases f with rfl | rfl | rfl | rfl | rfl
  all_goals
    simp +decide only [not_false_eq_true, not_true_eq_false, if_true, if_false]
    rw [a2, Option.bind_some]
    dsimp only
    rw [a3, Option.bind_some]
    dsimp only
    rw [if_pos g, a4, Option.bind_some, mshow]
    rfl
theorem showAs {t : Nat} {I : am_mI} {J : am_mJ} {A : am_mI} {B : am_mJ} (h : am_Iv t I J A B) {s k x d : Int32} {n : Nat} (st : ¬ DX8_isStuff A s = 0) (w : am_Wh I A s k) (hc : (A 0 37).toInt ≤ 400) (hd : 0 ≤ d.toInt ∧ d.toInt ≤ 5) : ∃ (v : Int32) (I1 A1 : am_mI), LX0_runBody (n + 8) I J 2 k x d = some (v, I1, J) ∧ DX8_showing A B s x = some (v, A1, B) ∧ am_Iv t I1 J A1 B ∧ am_Nt 10 I I1 A A1 := by
  obtain ⟨g, -⟩ := stuffAt h st
  have hk := (h.kinds st).1
  obtain ⟨d1, d2, d3⟩ := depth1 (n := 30) hd.1 (by omega) (by decide)
  have ek := w.2.2.2
  rw [ek] at hk
  have e7 : k = 0 ∨ k = 1 ∨ k = 2 ∨ k = 3 ∨ k = 4 ∨ k = 5 ∨ k = 6 := by
    clear ek w
    ((try simp only [Int32.lt_iff_toInt_lt, Int32.le_iff_toInt_le, Int32.reduceToInt, ← Int32.toNat_toInt, ← Int32.toInt_inj] at *) <;> omega)
  rcases e7 with rfl | rfl | rfl | rfl | rfl | rfl | rfl
  · exact show_one h (by decide) st w hc hd
  · exact show_one h (by decide) st w hc hd
  · exact show_one h (by decide) st w hc hd
  · exact show_one h (by decide) st w hc hd
  · obtain ⟨I1, A1, a1, a2, a3, a4⟩ := noteAs h 50 (by omega)
    have nc := a4.2.2.1
    have st1 := st_nt a4 st
    have w1 := w.nt a4
    obtain ⟨v, u, I2, A2, A3, A4, b1, b2, b3, b4, b5, b6⟩ := show_base a3 (n := n + 1) (f := 0) (x := x) (d := d + 1) (Or.inl rfl) st1 w1 (by omega) (by omega)
    refine ⟨-(v ^^^ u), I2, A4, ?_, ?_, b5, (a4.trans b6).le (by decide)⟩
    · rw [show n + 8 = (n + 1 + 5 + 1) + 1 from rfl, runX (o := 4) (b := 50) (u := 0) d2 (by decide +kernel) a1]
      simp +decide only [if_true, if_false]
      rw [b1, Option.bind_some]
    · unfold DX8_showing
      rw [if_pos g, ek]
      simp +decide only [not_false_eq_true, not_true_eq_false, if_true, if_false]
      rw [a2, Option.bind_some]
      dsimp only
      rw [b2, Option.bind_some]
      dsimp only
      rw [b3, Option.bind_some]
      dsimp only
      rw [if_pos g, b4, Option.bind_some, mshow]
      rfl
  · obtain ⟨I1, A1, a1, a2, a3, a4⟩ := noteAs h 60 (by omega)
    have nc := a4.2.2.1
    have st1 := st_nt a4 st
    have w1 := w.nt a4
    obtain ⟨I2, A2, c1, c2, c3, c4⟩ := noteAs a3 50 (by omega)
    have nc2 := c4.2.2.1
    have st2 := st_nt c4 st1
    have w2 := w1.nt c4
    obtain ⟨d4, d5, d6⟩ := depth1 (d := d + 1) (n := 35) (by omega) (by omega) (by decide)
    obtain ⟨v, u, I3, A3, A4, A5, b1, b2, b3, b4, b5, b6⟩ := show_base c3 (n := n) (f := 0) (x := x) (d := d + 1 + 1) (Or.inl rfl) st2 w2 (by omega) (by omega)
    refine ⟨-(v ^^^ u) ^^^ 5, I3, A5, ?_, ?_, b5, ((a4.trans c4).trans b6).le (by decide)⟩
    · rw [show n + 8 = (n + 5 + 1 + 1) + 1 from rfl, runX (o := 5) (b := 60) (u := 4) d2 (by decide +kernel) a1]
      simp +decide only [if_true, if_false]
      rw [runX (o := 4) (b := 50) (u := 0) d5 (by decide +kernel) c1]
      simp +decide only [if_true, if_false]
      rw [b1, Option.bind_some, Option.bind_some]
    · unfold DX8_showing
      rw [if_pos g, ek]
      simp +decide only [not_false_eq_true, not_true_eq_false, if_true, if_false]
      rw [a2, Option.bind_some]
      dsimp only
      rw [c2, Option.bind_some]
      dsimp only
      rw [b2, Option.bind_some]
      dsimp only
      rw [b3, Option.bind_some]
      dsimp only
      rw [if_pos g, b4, Option.bind_some, mshow]
      rfl
  · exact show_one h (by decide) st w hc hd
theorem op_act {t : Nat} {I : am_mI} {J : am_mJ} {A : am_mI} {B : am_mJ} (h : am_Iv t I J A B) (s a x : Int32) : am_Tw (t + 20000) (DX7_act I J s a x) (DX8_act A B s a x) := by
  obtain ⟨c1, ⟨c2, c3⟩, c4⟩ := h.ac
  have h0 : am_Iv t (am_upI I 38 1 0) J (am_upI A 0 37 0) B := by
    refine h.acts (fun k k0 _ => am_upI_ne k0) (fun k k0 _ => am_upI_ne k0) (fun q hq => am_upI_no hq) ⟨?_, ?_, fun i hi => ?_⟩
    · rw [am_upI_yes, am_upI_yes]
    · rw [am_upI_yes]
      exact ⟨by decide, by decide⟩
    · rw [am_upI_ne (by decide), am_upI_ne (by decide)]
      exact c4 i hi
  unfold DX7_act DX8_act DX0_perform DX0_forget
  have sO : DX8_isStuff (am_upI A 0 37 0) s = DX1_isStuff I 2 s := by
    rw [stuffO (A := A) h.bd.n0 h.nn]
    rfl
  rw [sO]
  by_cases st : DX1_isStuff I 2 s = 0
  · rw [if_pos st, if_pos st, Option.bind_some]
    exact .mk1 h0
  rw [if_neg st, if_neg st]
  by_cases a0 : a < 0
  · rw [if_pos a0, if_pos a0, Option.bind_some]
    exact .mk1 h0
  rw [if_neg a0, if_neg a0]
  by_cases a3 : a < (3 : Int32)
  · have a2 : a ≤ (2 : Int32) := by
      clear sO st h0 c1 c4
      ((try simp only [Int32.lt_iff_toInt_lt, Int32.le_iff_toInt_le, Int32.reduceToInt, ← Int32.toNat_toInt, ← Int32.toInt_inj] at *) <;> omega)
    have ea : a = 0 ∨ a = 1 ∨ a = 2 := by
      clear sO st h0 c1 c4
      ((try simp only [Int32.lt_iff_toInt_lt, Int32.le_iff_toInt_le, Int32.reduceToInt, ← Int32.toNat_toInt, ← Int32.toInt_inj] at *) <;> omega)
    rw [if_pos a3, if_pos a2, Option.bind_some]
    dsimp only
    have st2 : ¬ DX8_isStuff (am_upI A 0 37 0) s = 0 := by rw [sO]; exact st
    obtain ⟨g, k0, -, k2⟩ := stuffAt h0 st2
    rw [k0, Option.bind_some]
    have k2' : DX1_aOf (am_upI (am_upI (am_upI I 38 1 0) 38 2 (am_upI A 0 37 0 2 s.toNatClampNeg)) 38 3 s) 2 s = some (am_upI A 0 37 0 4 s.toNatClampNeg) := by
      rw [← k2]
      rfl
    rw [k2', Option.bind_some]
    have h1 : am_Iv t (am_upI (am_upI (am_upI (am_upI I 38 1 0) 38 2 (am_upI A 0 37 0 2 s.toNatClampNeg)) 38 3 s) 38 4 (am_upI A 0 37 0 4 s.toNatClampNeg)) J (am_upI A 0 37 0) B := by
      refine h0.acts (fun k k0 _ => ?_) (fun _ _ _ => rfl) (fun _ _ => rfl) ?_
      · rw [am_upI_ne k0, am_upI_ne k0, am_upI_ne k0]
      · obtain ⟨e1, e2, e3⟩ := h0.ac
        refine ⟨?_, e2, fun i hi => ?_⟩
        · rw [am_upI_no (by decide), am_upI_no (by decide), am_upI_no (by decide)]
          exact e1
        · rw [am_upI_ne (a := 39) (by decide), am_upI_ne (a := 39) (by decide), am_upI_ne (a := 39) (by decide)]
          exact e3 i hi
    have w : am_Wh (am_upI (am_upI (am_upI (am_upI I 38 1 0) 38 2 (am_upI A 0 37 0 2 s.toNatClampNeg)) 38 3 s) 38 4 (am_upI A 0 37 0 4 s.toNatClampNeg)) (am_upI A 0 37 0) s (am_upI A 0 37 0 2 s.toNatClampNeg) := by
      refine ⟨?_, ?_, ?_, rfl⟩
      · rw [am_upI_no (by decide), am_upI_no (by decide), am_upI_yes]
      · rw [am_upI_no (by decide), am_upI_yes]
      · rw [am_upI_yes]
    have cc : (am_upI A 0 37 0 0 37).toInt ≤ 400 := by
      rw [am_upI_yes]
      decide
    have w38 := w.1
    rw [w38]
    unfold DX0_runBody
    generalize am_upI (am_upI (am_upI (am_upI I 38 1 0) 38 2 (am_upI A 0 37 0 2 s.toNatClampNeg)) 38 3 s) 38 4 (am_upI A 0 37 0 4 s.toNatClampNeg) = I1 at *
    generalize am_upI A 0 37 0 = A1 at *
    rcases ea with rfl | rfl | rfl
    · obtain ⟨v, I2, A2, b1, b2, b3, -⟩ := layAs h1 (n := 43) (x := x) (d := 0) st2 w (by omega) (by decide)
      rw [if_neg (show ¬ ¬ (0 : Int32) = 0 from fun f => f rfl), b1, b2, Option.bind_some, Option.bind_some, Option.bind_some]
      exact .mk1 b3
    · obtain ⟨v, I2, A2, b1, b2, b3, -⟩ := fadeAs h1 (n := 40) (x := x) (d := 0) st2 w (by omega) (by decide)
      rw [if_pos (show ¬ (1 : Int32) = 0 by decide), if_neg (show ¬ ¬ (1 : Int32) = 1 from fun f => f rfl), b1, b2, Option.bind_some, Option.bind_some, Option.bind_some]
      exact .mk1 b3
    · obtain ⟨v, I2, A2, b1, b2, b3, -⟩ := showAs h1 (n := 37) (x := x) (d := 0) st2 w cc (by decide)
      rw [if_pos (show ¬ (2 : Int32) = 0 by decide), if_pos (show ¬ (2 : Int32) = 1 by decide), b1, b2, Option.bind_some, Option.bind_some, Option.bind_some]
      exact .mk1 b3
  · have a2 : ¬ a ≤ (2 : Int32) := by
      clear sO st h0 c1 c4
      ((try simp only [Int32.lt_iff_toInt_lt, Int32.le_iff_toInt_le, Int32.reduceToInt, ← Int32.toNat_toInt, ← Int32.toInt_inj] at *) <;> omega)
    rw [if_neg a3, if_neg a2, Option.bind_some]
    exact .mk1 h0
