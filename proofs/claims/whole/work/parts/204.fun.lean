/-! THE METHODS AS FUNCTIONS over the memory, and the row that their runs do so: laid by program (wip/whole/decomp.py) -/
def LX6_takeCells : Nat → (Nat → Nat → Int32) → (Nat → Nat → Int64) → Nat → Int32 → Int32 → Int32 → Option (Int32 × (Nat → Nat → Int32) × (Nat → Nat → Int64))
  | 0, _, _, _, _, _, _ => none
  | n + 1, I, J, g0, x2, x3, x4 =>
    if x3 ≤ x4 then
      some (x4, I, J)
    else
      (DX6_fullestIdleColumn I).bind fun q3 =>
      if ¬ q3 = (-1 : Int32) then
        (DX6_takeNextOf I J g0 q3 x2).bind fun q4 =>
        LX6_takeCells n q4.2.1 q4.2.2 g0 x2 x3 ((x4 + (1 : Int32)))
      else
        some (x4, I, J)
def DX6_takeCells (I : Nat → Nat → Int32) (J : Nat → Nat → Int64) (g0 : Nat) (a1 : Int32) (a2 : Int32) : Option (Int32 × (Nat → Nat → Int32) × (Nat → Nat → Int64)) :=
  LX6_takeCells am_FU I J g0 a1 a2 ((0 : Int32))
set_option maxHeartbeats 4000000 in
set_option maxRecDepth 100000 in
theorem alX6_takeCells : ∀ (n : Nat), ∀ {I : Nat → Nat → Int32} {J : Nat → Nat → Int64} {g0 : Nat} {x2 : Int32} {x3 : Int32} {x4 : Int32} {I' : Nat → Nat → Int32} {J' : Nat → Nat → Int64} {r : Int32}, dm_b g0 → LX6_takeCells n I J g0 x2 x3 x4 = some (r, I', J') → am_E 4 nX6_takeCells (3, [.ref 34, .ref g0, .int x2, .int x3, .int x4, .retAddr 0], [], (TX, I, J, RX)) (fun v M' => v = some (.int r) ∧ M' = (TX, I', J', RX)) := by
  intro n
  induction n with
  | zero => intros; contradiction
  | succ n ih =>
    intro I J g0 x2 x3 x4 I' J' r hg0 h
    simp only [LX6_takeCells] at h
    unfold dm_b at hg0
    rcases hg0 with rfl | rfl | rfl
    all_goals
      refine am_E.go (n := 1) rfl ?_
      refine am_E.brk rfl (fun hp => ?_) (fun hp => ?_)
      · have h := (if_pos hp).symm.trans h
        refine am_E.go (n := 0) rfl ?_
        cases h
        exact am_E.ret rfl ⟨rfl, rfl⟩
      · have h := (if_neg hp).symm.trans h
        refine am_E.go (n := 0) rfl ?_
        obtain ⟨q3, hq, h⟩ := am_bindI h
        refine am_E.callF rfl (by decide) (axX6_fullestIdleColumn hq) ?_
        refine am_E.go (n := 2) rfl ?_
        refine am_E.brk rfl (fun hp => ?_) (fun hp => ?_)
        · have h := (if_pos hp).symm.trans h
          refine am_E.go (n := 3) rfl ?_
          obtain ⟨q4, hq, h⟩ := am_bindI h
          obtain ⟨q4_1, q4_2, q4_3⟩ := q4
          refine am_E.callF rfl (by decide) (axX6_takeNextOf (by decide) hq) ?_
          refine am_E.go (n := 1) rfl ?_
          refine am_E.less (ls0 := [_, _, _, _, _, .retAddr 0]) ?_ ⟨Or.inl rfl, Or.inl rfl, Or.inl rfl, Or.inl rfl, Or.inl rfl, Or.inr ⟨rfl, rfl⟩, trivial⟩
          exact ih (by decide) h
        · have h := (if_neg hp).symm.trans h
          refine am_E.go (n := 0) rfl ?_
          cases h
          exact am_E.ret rfl ⟨rfl, rfl⟩
set_option maxHeartbeats 4000000 in
set_option maxRecDepth 100000 in
theorem axX6_takeCells {I : Nat → Nat → Int32} {J : Nat → Nat → Int64} {g0 : Nat} {a1 : Int32} {a2 : Int32} {r : Int32} {I' : Nat → Nat → Int32} {J' : Nat → Nat → Int64} (hg0 : dm_b g0) (h : DX6_takeCells I J g0 a1 a2 = some (r, I', J')) : am_F 4 nX6_takeCells [.ref 34, .ref g0, .int a1, .int a2, .retAddr 0, .retAddr 0] (TX, I, J, RX) (some (.int r)) (TX, I', J', RX) := by
  unfold DX6_takeCells at h
  unfold am_F
  unfold dm_b at hg0
  rcases hg0 with rfl | rfl | rfl
  all_goals
    refine am_E.go (n := 1) rfl ?_
    exact (alX6_takeCells am_FU) (by decide) h
def LX6_lastMinute : Nat → (Nat → Nat → Int32) → (Nat → Nat → Int64) → Nat → Int32 → Int32 → Int32 → Option (Int32 × (Nat → Nat → Int32) × (Nat → Nat → Int64))
  | 0, _, _, _, _, _, _ => none
  | n + 1, I, J, g0, x2, x3, x4 =>
    if (240 : Int32) < x4 then
      some ((240 : Int32), I, J)
    else
      (DX6_finish I J x4).bind fun q4 =>
      (DX6_takeCells q4.2.1 q4.2.2 g0 x4 ((x3 + q4.1))).bind fun q5 =>
      if ((x3 + q4.1) - q5.1) < x2 then
        LX6_lastMinute n q5.2.1 q5.2.2 g0 x2 (((x3 + q4.1) - q5.1)) ((x4 + (1 : Int32)))
      else
        some (x4, q5.2.1, q5.2.2)
def DX6_lastMinute (I : Nat → Nat → Int32) (J : Nat → Nat → Int64) (g0 : Nat) (a1 : Int32) : Option (Int32 × (Nat → Nat → Int32) × (Nat → Nat → Int64)) :=
  (DX6_begin I J g0).bind fun q1 =>
  LX6_lastMinute am_FU q1.2.1 q1.2.2 g0 a1 a1 ((0 : Int32))
set_option maxHeartbeats 4000000 in
set_option maxRecDepth 100000 in
theorem alX6_lastMinute : ∀ (n : Nat), ∀ {I : Nat → Nat → Int32} {J : Nat → Nat → Int64} {g0 : Nat} {x2 : Int32} {x3 : Int32} {x4 : Int32} {I' : Nat → Nat → Int32} {J' : Nat → Nat → Int64} {r : Int32}, dm_b g0 → LX6_lastMinute n I J g0 x2 x3 x4 = some (r, I', J') → am_E 5 nX6_lastMinute (10, [.ref 34, .ref g0, .int x2, .int x3, .int x4], [], (TX, I, J, RX)) (fun v M' => v = some (.int r) ∧ M' = (TX, I', J', RX)) := by
  intro n
  induction n with
  | zero => intros; contradiction
  | succ n ih =>
    intro I J g0 x2 x3 x4 I' J' r hg0 h
    simp only [LX6_lastMinute] at h
    unfold dm_b at hg0
    rcases hg0 with rfl | rfl | rfl
    all_goals
      refine am_E.go (n := 1) rfl ?_
      refine am_E.brk rfl (fun hp => ?_) (fun hp => ?_)
      · have h := (if_pos hp).symm.trans h
        refine am_E.go (n := 0) rfl ?_
        cases h
        exact am_E.ret rfl ⟨rfl, rfl⟩
      · have h := (if_neg hp).symm.trans h
        refine am_E.go (n := 2) rfl ?_
        obtain ⟨q4, hq, h⟩ := am_bindI h
        obtain ⟨q4_1, q4_2, q4_3⟩ := q4
        refine am_E.callF rfl (by decide) (axX6_finish hq) ?_
        refine am_E.go (n := 6) rfl ?_
        obtain ⟨q5, hq, h⟩ := am_bindI h
        obtain ⟨q5_1, q5_2, q5_3⟩ := q5
        refine am_E.callF rfl (by decide) (axX6_takeCells (by decide) hq) ?_
        refine am_E.go (n := 3) rfl ?_
        refine am_E.brk rfl (fun hp => ?_) (fun hp => ?_)
        · have h := (if_pos hp).symm.trans h
          refine am_E.go (n := 1) rfl ?_
          exact ih (by decide) h
        · have h := (if_neg hp).symm.trans h
          refine am_E.go (n := 0) rfl ?_
          cases h
          exact am_E.ret rfl ⟨rfl, rfl⟩
set_option maxHeartbeats 4000000 in
set_option maxRecDepth 100000 in
theorem axX6_lastMinute {I : Nat → Nat → Int32} {J : Nat → Nat → Int64} {g0 : Nat} {a1 : Int32} {r : Int32} {I' : Nat → Nat → Int32} {J' : Nat → Nat → Int64} (hg0 : dm_b g0) (h : DX6_lastMinute I J g0 a1 = some (r, I', J')) : am_F 5 nX6_lastMinute [.ref 34, .ref g0, .int a1, .retAddr 0, .retAddr 0] (TX, I, J, RX) (some (.int r)) (TX, I', J', RX) := by
  unfold DX6_lastMinute at h
  unfold am_F
  unfold dm_b at hg0
  rcases hg0 with rfl | rfl | rfl
  all_goals
    refine am_E.go (n := 1) rfl ?_
    obtain ⟨q1, hq, h⟩ := am_bindI h
    obtain ⟨q1_1, q1_2, q1_3⟩ := q1
    refine am_E.callF rfl (by decide) (axX6_begin (by decide) hq) ?_
    refine am_E.go (n := 3) rfl ?_
    exact (alX6_lastMinute am_FU) (by decide) h
def DX7_refuse (I : Nat → Nat → Int32) (J : Nat → Nat → Int64) (a0 : Int32) : Option (Int32 × (Nat → Nat → Int32) × (Nat → Nat → Int64)) :=
  if (-10 : Int32) ≤ a0 then
    if ((-1 : Int32) - a0) < 0 then
      some (a0, I, J)
    else
      if (7 : Int32) ≤ ((-1 : Int32) - a0) then
        some (a0, I, J)
      else
        if ¬ (((-1 : Int32) - a0) < 0 ∨ 7 ≤ (((-1 : Int32) - a0)).toNatClampNeg) then
          if ¬ (((-1 : Int32) - a0) < 0 ∨ 7 ≤ (((-1 : Int32) - a0)).toNatClampNeg) then
            (some (am_upI I 40 (((-1 : Int32) - a0)).toNatClampNeg ((I 40 (((-1 : Int32) - a0)).toNatClampNeg) + (1 : Int32)))).bind fun I1 =>
            some (a0, I1, J)
          else none
        else none
  else
    if ((-1 : Int32) - (a0 - (-10 : Int32))) < 0 then
      some (a0, I, J)
    else
      if (7 : Int32) ≤ ((-1 : Int32) - (a0 - (-10 : Int32))) then
        some (a0, I, J)
      else
        if ¬ (((-1 : Int32) - (a0 - (-10 : Int32))) < 0 ∨ 7 ≤ (((-1 : Int32) - (a0 - (-10 : Int32)))).toNatClampNeg) then
          if ¬ (((-1 : Int32) - (a0 - (-10 : Int32))) < 0 ∨ 7 ≤ (((-1 : Int32) - (a0 - (-10 : Int32)))).toNatClampNeg) then
            (some (am_upI I 40 (((-1 : Int32) - (a0 - (-10 : Int32)))).toNatClampNeg ((I 40 (((-1 : Int32) - (a0 - (-10 : Int32)))).toNatClampNeg) + (1 : Int32)))).bind fun I2 =>
            some (a0, I2, J)
          else none
        else none
set_option maxHeartbeats 4000000 in
set_option maxRecDepth 100000 in
theorem axX7_refuse {I : Nat → Nat → Int32} {J : Nat → Nat → Int64} {a0 : Int32} {r : Int32} {I' : Nat → Nat → Int32} {J' : Nat → Nat → Int64} (h : DX7_refuse I J a0 = some (r, I', J')) : am_F 0 nX7_refuse [.ref 0, .int a0, .retAddr 0, .retAddr 0] (TX, I, J, RX) (some (.int r)) (TX, I', J', RX) := by
  unfold DX7_refuse at h
  unfold am_F
  refine am_E.go (n := 1) rfl ?_
  refine am_E.brk rfl (fun hp => ?_) (fun hp => ?_)
  · have h := (if_pos hp).symm.trans h
    refine am_E.go (n := 6) rfl ?_
    revert h
    with_reducible refine am_gen ((-1 : Int32) - a0) ?_
    intro w h
    refine am_E.brk rfl (fun hp => ?_) (fun hp => ?_)
    · have h := (if_pos hp).symm.trans h
      refine am_E.go (n := 0) rfl ?_
      cases h
      exact am_E.ret rfl ⟨rfl, rfl⟩
    · have h := (if_neg hp).symm.trans h
      refine am_E.go (n := 3) rfl ?_
      revert h
      with_reducible refine am_gen ((-1 : Int32) - a0) ?_
      intro w h
      refine am_E.brk rfl (fun hp => ?_) (fun hp => ?_)
      · have h := (if_pos hp).symm.trans h
        refine am_E.go (n := 0) rfl ?_
        cases h
        exact am_E.ret rfl ⟨rfl, rfl⟩
      · have h := (if_neg hp).symm.trans h
        refine am_E.go (n := 3) rfl ?_
        obtain ⟨hg, h⟩ := am_ifI h
        refine am_E.grd rfl hg ?_
        refine am_E.go (n := 1) rfl ?_
        obtain ⟨hg, h⟩ := am_ifI h
        refine am_E.grd rfl hg ?_
        obtain ⟨I1, hI, h⟩ := am_bindI h
        obtain rfl := Option.some.inj hI
        refine am_E.go (n := 0) rfl ?_
        cases h
        exact am_E.ret rfl ⟨rfl, rfl⟩
  · have h := (if_neg hp).symm.trans h
    refine am_E.go (n := 9) rfl ?_
    revert h
    with_reducible refine am_gen ((-1 : Int32) - (a0 - (-10 : Int32))) ?_
    intro w h
    refine am_E.brk rfl (fun hp => ?_) (fun hp => ?_)
    · have h := (if_pos hp).symm.trans h
      refine am_E.go (n := 0) rfl ?_
      cases h
      exact am_E.ret rfl ⟨rfl, rfl⟩
    · have h := (if_neg hp).symm.trans h
      refine am_E.go (n := 3) rfl ?_
      revert h
      with_reducible refine am_gen ((-1 : Int32) - (a0 - (-10 : Int32))) ?_
      intro w h
      refine am_E.brk rfl (fun hp => ?_) (fun hp => ?_)
      · have h := (if_pos hp).symm.trans h
        refine am_E.go (n := 0) rfl ?_
        cases h
        exact am_E.ret rfl ⟨rfl, rfl⟩
      · have h := (if_neg hp).symm.trans h
        refine am_E.go (n := 3) rfl ?_
        obtain ⟨hg, h⟩ := am_ifI h
        refine am_E.grd rfl hg ?_
        refine am_E.go (n := 1) rfl ?_
        obtain ⟨hg, h⟩ := am_ifI h
        refine am_E.grd rfl hg ?_
        obtain ⟨I2, hI, h⟩ := am_bindI h
        obtain rfl := Option.some.inj hI
        refine am_E.go (n := 0) rfl ?_
        cases h
        exact am_E.ret rfl ⟨rfl, rfl⟩
def DX7_row (I : Nat → Nat → Int32) (J : Nat → Nat → Int64) (a0 : Int32) (a1 : Int32) (a2 : Int32) : Option (Int32 × (Nat → Nat → Int32) × (Nat → Nat → Int64)) :=
  if (DX7_shelfAt a0) = 0 then
    (DX7_refuse I J ((-1 : Int32))).bind fun q1 =>
    some (q1.1, q1.2.1, q1.2.2)
  else
    if 0 ≤ a2 then
      if a1 < 0 then
        (DX7_refuse I J ((-6 : Int32))).bind fun q2 =>
        some (q2.1, q2.2.1, q2.2.2)
      else
        if a1 < (4 : Int32) then
          if a2 ≤ (160 : Int32) then
            (DX3_takeRow I J ((DX7_shelfAt a0)) a1 a2).bind fun q3 =>
            some ((1 : Int32), q3.2.1, q3.2.2)
          else
            (DX7_refuse I J ((-7 : Int32))).bind fun q4 =>
            some (q4.1, q4.2.1, q4.2.2)
        else
          (DX7_refuse I J ((-6 : Int32))).bind fun q5 =>
          some (q5.1, q5.2.1, q5.2.2)
    else
      (DX7_refuse I J ((-4 : Int32))).bind fun q6 =>
      some (q6.1, q6.2.1, q6.2.2)
set_option maxHeartbeats 4000000 in
set_option maxRecDepth 100000 in
theorem axX7_row {I : Nat → Nat → Int32} {J : Nat → Nat → Int64} {a0 : Int32} {a1 : Int32} {a2 : Int32} {r : Int32} {I' : Nat → Nat → Int32} {J' : Nat → Nat → Int64} (h : DX7_row I J a0 a1 a2 = some (r, I', J')) : am_F 2 nX7_row [.ref 0, .int a0, .int a1, .int a2, .retAddr 0] (TX, I, J, RX) (some (.int r)) (TX, I', J', RX) := by
  unfold DX7_row at h
  unfold am_F
  refine am_E.go (n := 1) rfl ?_
  refine am_E.callF rfl (by decide) (axX7_shelfAt _ _ _) ?_
  by_cases hp : (DX7_shelfAt a0) = 0
  · have h := (if_pos hp).symm.trans h
    rw [am_rv0 hp]
    refine am_E.go (n := 1) rfl ?_
    refine am_E.step rfl ?_
    refine am_E.go (n := 1) rfl ?_
    obtain ⟨q1, hq, h⟩ := am_bindI h
    obtain ⟨q1_1, q1_2, q1_3⟩ := q1
    refine am_E.callF rfl (by decide) (axX7_refuse hq) ?_
    cases h
    exact am_E.ret rfl ⟨rfl, rfl⟩
  · have h := (if_neg hp).symm.trans h
    rw [am_rv1 hp]
    have hsh0 := axX7_shelfId hp
    refine am_E.go (n := 1) rfl ?_
    refine am_E.grd rfl (am_lt9 (am_shLt hsh0)) ?_
    refine am_E.go (n := 0) rfl ?_
    refine am_E.brk rfl (fun hp => ?_) (fun hp => ?_)
    · have h := (if_pos hp).symm.trans h
      refine am_E.go (n := 0) rfl ?_
      refine am_E.brk rfl (fun hp => ?_) (fun hp => ?_)
      · have h := (if_pos hp).symm.trans h
        refine am_E.go (n := 1) rfl ?_
        obtain ⟨q2, hq, h⟩ := am_bindI h
        obtain ⟨q2_1, q2_2, q2_3⟩ := q2
        refine am_E.callF rfl (by decide) (axX7_refuse hq) ?_
        cases h
        exact am_E.ret rfl ⟨rfl, rfl⟩
      · have h := (if_neg hp).symm.trans h
        refine am_E.go (n := 1) rfl ?_
        refine am_E.brk rfl (fun hp => ?_) (fun hp => ?_)
        · have h := (if_pos hp).symm.trans h
          refine am_E.go (n := 1) rfl ?_
          refine am_E.brk rfl (fun hp => ?_) (fun hp => ?_)
          · have h := (if_pos hp).symm.trans h
            refine am_E.go (n := 2) rfl ?_
            obtain ⟨q3, hq, h⟩ := am_bindI h
            obtain ⟨q3_1, q3_2, q3_3⟩ := q3
            refine am_E.callGF rfl (am_shTag hsh0) (by decide) (axX3_takeRow hsh0 hq) ?_
            refine am_E.go (n := 0) rfl ?_
            cases h
            exact am_E.ret rfl ⟨rfl, rfl⟩
          · have h := (if_neg hp).symm.trans h
            refine am_E.go (n := 1) rfl ?_
            obtain ⟨q4, hq, h⟩ := am_bindI h
            obtain ⟨q4_1, q4_2, q4_3⟩ := q4
            refine am_E.callF rfl (by decide) (axX7_refuse hq) ?_
            cases h
            exact am_E.ret rfl ⟨rfl, rfl⟩
        · have h := (if_neg hp).symm.trans h
          refine am_E.go (n := 1) rfl ?_
          obtain ⟨q5, hq, h⟩ := am_bindI h
          obtain ⟨q5_1, q5_2, q5_3⟩ := q5
          refine am_E.callF rfl (by decide) (axX7_refuse hq) ?_
          cases h
          exact am_E.ret rfl ⟨rfl, rfl⟩
    · have h := (if_neg hp).symm.trans h
      refine am_E.go (n := 1) rfl ?_
      obtain ⟨q6, hq, h⟩ := am_bindI h
      obtain ⟨q6_1, q6_2, q6_3⟩ := q6
      refine am_E.callF rfl (by decide) (axX7_refuse hq) ?_
      cases h
      exact am_E.ret rfl ⟨rfl, rfl⟩
def DX7_set (I : Nat → Nat → Int32) (J : Nat → Nat → Int64) (a0 : Int32) (a1 : Int32) (a2 : Int64) : Option (Int32 × (Nat → Nat → Int32) × (Nat → Nat → Int64)) :=
  if (DX7_shelfAt a0) = 0 then
    (DX7_refuse I J ((-1 : Int32))).bind fun q1 =>
    some (q1.1, q1.2.1, q1.2.2)
  else
    if (DX3_rowTrouble I ((DX7_shelfAt a0))) = 0 then
      if ¬ (DX3_hasElement I ((DX7_shelfAt a0)) a1) = 0 then
        (DX3_put I J ((DX7_shelfAt a0)) a1 a2).bind fun q2 =>
        some ((1 : Int32), q2.2.1, q2.2.2)
      else
        (DX7_refuse I J ((-5 : Int32))).bind fun q3 =>
        some (q3.1, q3.2.1, q3.2.2)
    else
      (DX7_refuse I J ((DX3_rowTrouble I ((DX7_shelfAt a0))))).bind fun q4 =>
      some (q4.1, q4.2.1, q4.2.2)
set_option maxHeartbeats 4000000 in
set_option maxRecDepth 100000 in
theorem axX7_set {I : Nat → Nat → Int32} {J : Nat → Nat → Int64} {a0 : Int32} {a1 : Int32} {a2 : Int64} {r : Int32} {I' : Nat → Nat → Int32} {J' : Nat → Nat → Int64} (h : DX7_set I J a0 a1 a2 = some (r, I', J')) : am_F 2 nX7_set [.ref 0, .int a0, .int a1, .long a2, .retAddr 0, .retAddr 0, .retAddr 0] (TX, I, J, RX) (some (.int r)) (TX, I', J', RX) := by
  unfold DX7_set at h
  unfold am_F
  refine am_E.go (n := 1) rfl ?_
  refine am_E.callF rfl (by decide) (axX7_shelfAt _ _ _) ?_
  by_cases hp : (DX7_shelfAt a0) = 0
  · have h := (if_pos hp).symm.trans h
    rw [am_rv0 hp]
    refine am_E.go (n := 1) rfl ?_
    refine am_E.step rfl ?_
    refine am_E.go (n := 1) rfl ?_
    obtain ⟨q1, hq, h⟩ := am_bindI h
    obtain ⟨q1_1, q1_2, q1_3⟩ := q1
    refine am_E.callF rfl (by decide) (axX7_refuse hq) ?_
    cases h
    exact am_E.ret rfl ⟨rfl, rfl⟩
  · have h := (if_neg hp).symm.trans h
    rw [am_rv1 hp]
    have hsh0 := axX7_shelfId hp
    refine am_E.go (n := 1) rfl ?_
    refine am_E.grd rfl (am_lt9 (am_shLt hsh0)) ?_
    refine am_E.go (n := 0) rfl ?_
    refine am_E.callGF rfl (am_shTag hsh0) (by decide) (axX3_rowTrouble hsh0 rfl) ?_
    refine am_E.go (n := 1) rfl ?_
    refine am_E.brk rfl (fun hp => ?_) (fun hp => ?_)
    · have h := (if_pos hp).symm.trans h
      refine am_E.go (n := 1) rfl ?_
      refine am_E.callGF rfl (am_shTag hsh0) (by decide) (axX3_hasElement hsh0 rfl) ?_
      refine am_E.brk rfl (fun hp => ?_) (fun hp => ?_)
      · have h := (if_pos hp).symm.trans h
        refine am_E.go (n := 2) rfl ?_
        obtain ⟨q2, hq, h⟩ := am_bindI h
        obtain ⟨q2_1, q2_2, q2_3⟩ := q2
        refine am_E.callGF rfl (am_shTag hsh0) (by decide) (axX3_put hsh0 hq) ?_
        refine am_E.go (n := 0) rfl ?_
        cases h
        exact am_E.ret rfl ⟨rfl, rfl⟩
      · have h := (if_neg hp).symm.trans h
        refine am_E.go (n := 1) rfl ?_
        obtain ⟨q3, hq, h⟩ := am_bindI h
        obtain ⟨q3_1, q3_2, q3_3⟩ := q3
        refine am_E.callF rfl (by decide) (axX7_refuse hq) ?_
        cases h
        exact am_E.ret rfl ⟨rfl, rfl⟩
    · have h := (if_neg hp).symm.trans h
      refine am_E.go (n := 1) rfl ?_
      obtain ⟨q4, hq, h⟩ := am_bindI h
      obtain ⟨q4_1, q4_2, q4_3⟩ := q4
      refine am_E.callF rfl (by decide) (axX7_refuse hq) ?_
      cases h
      exact am_E.ret rfl ⟨rfl, rfl⟩
def DX7_copy (I : Nat → Nat → Int32) (J : Nat → Nat → Int64) (a0 : Int32) (a1 : Int32) (a2 : Int32) (a3 : Int32) (a4 : Int32) : Option (Int32 × (Nat → Nat → Int32) × (Nat → Nat → Int64)) :=
  if (DX7_shelfAt a0) = 0 then
    if (DX7_shelfAt a1) = 0 then
      (DX7_refuse I J ((-1 : Int32))).bind fun q1 =>
      some (q1.1, q1.2.1, q1.2.2)
    else
      (DX7_refuse I J ((-1 : Int32))).bind fun q2 =>
      some (q2.1, q2.2.1, q2.2.2)
  else
    if (DX7_shelfAt a1) = 0 then
      (DX7_refuse I J ((-1 : Int32))).bind fun q3 =>
      some (q3.1, q3.2.1, q3.2.2)
    else
      if ¬ (DX3_holdsStuff I ((DX7_shelfAt a0))) = 0 then
        (DX7_refuse I J ((-2 : Int32))).bind fun q4 =>
        some (q4.1, q4.2.1, q4.2.2)
      else
        if ¬ (DX3_holdsStuff I ((DX7_shelfAt a1))) = 0 then
          (DX7_refuse I J ((-2 : Int32))).bind fun q5 =>
          some (q5.1, q5.2.1, q5.2.2)
        else
          if (DX3_isOfOtherSort I ((DX7_shelfAt a0)) ((DX7_shelfAt a1))) = 0 then
            if (DX3_holdsRow I ((DX7_shelfAt a0))) = 0 then
              (DX7_refuse I J ((-3 : Int32))).bind fun q6 =>
              some (q6.1, q6.2.1, q6.2.2)
            else
              if ¬ (DX3_holdsRow I ((DX7_shelfAt a1))) = 0 then
                if 0 ≤ a4 then
                  if (DX3_hasElements I ((DX7_shelfAt a0)) a2 a4) = 0 then
                    (DX7_refuse I J ((-5 : Int32))).bind fun q7 =>
                    some (q7.1, q7.2.1, q7.2.2)
                  else
                    if ¬ (DX3_hasElements I ((DX7_shelfAt a1)) a3 a4) = 0 then
                      (DX3_copyTo I J ((DX7_shelfAt a0)) ((DX7_shelfAt a1)) a2 a3 a4).bind fun q8 =>
                      some ((1 : Int32), q8.2.1, q8.2.2)
                    else
                      (DX7_refuse I J ((-5 : Int32))).bind fun q9 =>
                      some (q9.1, q9.2.1, q9.2.2)
                else
                  (DX7_refuse I J ((-4 : Int32))).bind fun q10 =>
                  some (q10.1, q10.2.1, q10.2.2)
              else
                (DX7_refuse I J ((-3 : Int32))).bind fun q11 =>
                some (q11.1, q11.2.1, q11.2.2)
          else
            (DX7_refuse I J ((-2 : Int32))).bind fun q12 =>
            some (q12.1, q12.2.1, q12.2.2)
set_option maxHeartbeats 4000000 in
set_option maxRecDepth 100000 in
theorem axX7_copy {I : Nat → Nat → Int32} {J : Nat → Nat → Int64} {a0 : Int32} {a1 : Int32} {a2 : Int32} {a3 : Int32} {a4 : Int32} {r : Int32} {I' : Nat → Nat → Int32} {J' : Nat → Nat → Int64} (h : DX7_copy I J a0 a1 a2 a3 a4 = some (r, I', J')) : am_F 2 nX7_copy [.ref 0, .int a0, .int a1, .int a2, .int a3, .int a4, .retAddr 0, .retAddr 0] (TX, I, J, RX) (some (.int r)) (TX, I', J', RX) := by
  unfold DX7_copy at h
  unfold am_F
  refine am_E.go (n := 1) rfl ?_
  refine am_E.callF rfl (by decide) (axX7_shelfAt _ _ _) ?_
  by_cases hp : (DX7_shelfAt a0) = 0
  · have h := (if_pos hp).symm.trans h
    rw [am_rv0 hp]
    refine am_E.go (n := 2) rfl ?_
    refine am_E.callF rfl (by decide) (axX7_shelfAt _ _ _) ?_
    by_cases hp : (DX7_shelfAt a1) = 0
    · have h := (if_pos hp).symm.trans h
      rw [am_rv0 hp]
      refine am_E.go (n := 1) rfl ?_
      refine am_E.step rfl ?_
      refine am_E.go (n := 1) rfl ?_
      obtain ⟨q1, hq, h⟩ := am_bindI h
      obtain ⟨q1_1, q1_2, q1_3⟩ := q1
      refine am_E.callF rfl (by decide) (axX7_refuse hq) ?_
      cases h
      exact am_E.ret rfl ⟨rfl, rfl⟩
    · have h := (if_neg hp).symm.trans h
      rw [am_rv1 hp]
      have hsh0 := axX7_shelfId hp
      refine am_E.go (n := 1) rfl ?_
      refine am_E.step rfl ?_
      refine am_E.go (n := 1) rfl ?_
      obtain ⟨q2, hq, h⟩ := am_bindI h
      obtain ⟨q2_1, q2_2, q2_3⟩ := q2
      refine am_E.callF rfl (by decide) (axX7_refuse hq) ?_
      cases h
      exact am_E.ret rfl ⟨rfl, rfl⟩
  · have h := (if_neg hp).symm.trans h
    rw [am_rv1 hp]
    have hsh1 := axX7_shelfId hp
    refine am_E.go (n := 2) rfl ?_
    refine am_E.callF rfl (by decide) (axX7_shelfAt _ _ _) ?_
    by_cases hp : (DX7_shelfAt a1) = 0
    · have h := (if_pos hp).symm.trans h
      rw [am_rv0 hp]
      refine am_E.go (n := 1) rfl ?_
      refine am_E.grd rfl (am_lt9 (am_shLt hsh1)) ?_
      refine am_E.go (n := 0) rfl ?_
      refine am_E.step rfl ?_
      refine am_E.go (n := 1) rfl ?_
      obtain ⟨q3, hq, h⟩ := am_bindI h
      obtain ⟨q3_1, q3_2, q3_3⟩ := q3
      refine am_E.callF rfl (by decide) (axX7_refuse hq) ?_
      cases h
      exact am_E.ret rfl ⟨rfl, rfl⟩
    · have h := (if_neg hp).symm.trans h
      rw [am_rv1 hp]
      have hsh0 := axX7_shelfId hp
      refine am_E.go (n := 1) rfl ?_
      refine am_E.grd rfl (am_lt9 (am_shLt hsh1)) ?_
      refine am_E.go (n := 0) rfl ?_
      refine am_E.grd rfl (am_lt9 (am_shLt hsh0)) ?_
      refine am_E.go (n := 0) rfl ?_
      refine am_E.callGF rfl (am_shTag hsh1) (by decide) (axX3_holdsStuff hsh1 rfl) ?_
      refine am_E.brk rfl (fun hp => ?_) (fun hp => ?_)
      · have h := (if_pos hp).symm.trans h
        refine am_E.go (n := 1) rfl ?_
        obtain ⟨q4, hq, h⟩ := am_bindI h
        obtain ⟨q4_1, q4_2, q4_3⟩ := q4
        refine am_E.callF rfl (by decide) (axX7_refuse hq) ?_
        cases h
        exact am_E.ret rfl ⟨rfl, rfl⟩
      · have h := (if_neg hp).symm.trans h
        refine am_E.go (n := 0) rfl ?_
        refine am_E.callGF rfl (am_shTag hsh0) (by decide) (axX3_holdsStuff hsh0 rfl) ?_
        refine am_E.brk rfl (fun hp => ?_) (fun hp => ?_)
        · have h := (if_pos hp).symm.trans h
          refine am_E.go (n := 1) rfl ?_
          obtain ⟨q5, hq, h⟩ := am_bindI h
          obtain ⟨q5_1, q5_2, q5_3⟩ := q5
          refine am_E.callF rfl (by decide) (axX7_refuse hq) ?_
          cases h
          exact am_E.ret rfl ⟨rfl, rfl⟩
        · have h := (if_neg hp).symm.trans h
          refine am_E.go (n := 1) rfl ?_
          refine am_E.callGF rfl (am_shTag hsh1) (by decide) (axX3_isOfOtherSort hsh1 hsh0 rfl) ?_
          refine am_E.brk rfl (fun hp => ?_) (fun hp => ?_)
          · have h := (if_pos hp).symm.trans h
            refine am_E.go (n := 0) rfl ?_
            refine am_E.callGF rfl (am_shTag hsh1) (by decide) (axX3_holdsRow hsh1 rfl) ?_
            refine am_E.brk rfl (fun hp => ?_) (fun hp => ?_)
            · have h := (if_pos hp).symm.trans h
              refine am_E.go (n := 1) rfl ?_
              obtain ⟨q6, hq, h⟩ := am_bindI h
              obtain ⟨q6_1, q6_2, q6_3⟩ := q6
              refine am_E.callF rfl (by decide) (axX7_refuse hq) ?_
              cases h
              exact am_E.ret rfl ⟨rfl, rfl⟩
            · have h := (if_neg hp).symm.trans h
              refine am_E.go (n := 0) rfl ?_
              refine am_E.callGF rfl (am_shTag hsh0) (by decide) (axX3_holdsRow hsh0 rfl) ?_
              refine am_E.brk rfl (fun hp => ?_) (fun hp => ?_)
              · have h := (if_pos hp).symm.trans h
                refine am_E.go (n := 0) rfl ?_
                refine am_E.brk rfl (fun hp => ?_) (fun hp => ?_)
                · have h := (if_pos hp).symm.trans h
                  refine am_E.go (n := 2) rfl ?_
                  refine am_E.callGF rfl (am_shTag hsh1) (by decide) (axX3_hasElements hsh1 rfl) ?_
                  refine am_E.brk rfl (fun hp => ?_) (fun hp => ?_)
                  · have h := (if_pos hp).symm.trans h
                    refine am_E.go (n := 1) rfl ?_
                    obtain ⟨q7, hq, h⟩ := am_bindI h
                    obtain ⟨q7_1, q7_2, q7_3⟩ := q7
                    refine am_E.callF rfl (by decide) (axX7_refuse hq) ?_
                    cases h
                    exact am_E.ret rfl ⟨rfl, rfl⟩
                  · have h := (if_neg hp).symm.trans h
                    refine am_E.go (n := 2) rfl ?_
                    refine am_E.callGF rfl (am_shTag hsh0) (by decide) (axX3_hasElements hsh0 rfl) ?_
                    refine am_E.brk rfl (fun hp => ?_) (fun hp => ?_)
                    · have h := (if_pos hp).symm.trans h
                      refine am_E.go (n := 4) rfl ?_
                      obtain ⟨q8, hq, h⟩ := am_bindI h
                      obtain ⟨q8_1, q8_2, q8_3⟩ := q8
                      refine am_E.callGF rfl (am_shTag hsh1) (by decide) (axX3_copyTo hsh1 hsh0 hq) ?_
                      refine am_E.go (n := 0) rfl ?_
                      cases h
                      exact am_E.ret rfl ⟨rfl, rfl⟩
                    · have h := (if_neg hp).symm.trans h
                      refine am_E.go (n := 1) rfl ?_
                      obtain ⟨q9, hq, h⟩ := am_bindI h
                      obtain ⟨q9_1, q9_2, q9_3⟩ := q9
                      refine am_E.callF rfl (by decide) (axX7_refuse hq) ?_
                      cases h
                      exact am_E.ret rfl ⟨rfl, rfl⟩
                · have h := (if_neg hp).symm.trans h
                  refine am_E.go (n := 1) rfl ?_
                  obtain ⟨q10, hq, h⟩ := am_bindI h
                  obtain ⟨q10_1, q10_2, q10_3⟩ := q10
                  refine am_E.callF rfl (by decide) (axX7_refuse hq) ?_
                  cases h
                  exact am_E.ret rfl ⟨rfl, rfl⟩
              · have h := (if_neg hp).symm.trans h
                refine am_E.go (n := 1) rfl ?_
                obtain ⟨q11, hq, h⟩ := am_bindI h
                obtain ⟨q11_1, q11_2, q11_3⟩ := q11
                refine am_E.callF rfl (by decide) (axX7_refuse hq) ?_
                cases h
                exact am_E.ret rfl ⟨rfl, rfl⟩
          · have h := (if_neg hp).symm.trans h
            refine am_E.go (n := 1) rfl ?_
            obtain ⟨q12, hq, h⟩ := am_bindI h
            obtain ⟨q12_1, q12_2, q12_3⟩ := q12
            refine am_E.callF rfl (by decide) (axX7_refuse hq) ?_
            cases h
            exact am_E.ret rfl ⟨rfl, rfl⟩
def DX7_element (I : Nat → Nat → Int32) (J : Nat → Nat → Int64) (a0 : Int32) (a1 : Int32) : Option Int64 :=
  if (DX7_shelfAt a0) = 0 then
    some ((0 : Int64))
  else
    (DX3_elementAt I J ((DX7_shelfAt a0)) a1).bind fun q1 =>
    some q1
set_option maxHeartbeats 4000000 in
set_option maxRecDepth 100000 in
theorem axX7_element {I : Nat → Nat → Int32} {J : Nat → Nat → Int64} {a0 : Int32} {a1 : Int32} {r : Int64} (h : DX7_element I J a0 a1 = some r) : am_F 2 nX7_element [.ref 0, .int a0, .int a1, .retAddr 0] (TX, I, J, RX) (some (.long r)) (TX, I, J, RX) := by
  unfold DX7_element at h
  unfold am_F
  refine am_E.go (n := 1) rfl ?_
  refine am_E.callF rfl (by decide) (axX7_shelfAt _ _ _) ?_
  by_cases hp : (DX7_shelfAt a0) = 0
  · have h := (if_pos hp).symm.trans h
    rw [am_rv0 hp]
    refine am_E.go (n := 1) rfl ?_
    refine am_E.step rfl ?_
    refine am_E.go (n := 1) rfl ?_
    cases h
    exact am_E.ret rfl ⟨rfl, rfl⟩
  · have h := (if_neg hp).symm.trans h
    rw [am_rv1 hp]
    have hsh0 := axX7_shelfId hp
    refine am_E.go (n := 1) rfl ?_
    refine am_E.grd rfl (am_lt9 (am_shLt hsh0)) ?_
    refine am_E.go (n := 1) rfl ?_
    obtain ⟨q1, hq, h⟩ := am_bindI h
    refine am_E.callGF rfl (am_shTag hsh0) (by decide) (axX3_elementAt hsh0 hq) ?_
    cases h
    exact am_E.ret rfl ⟨rfl, rfl⟩
def DX7_show (I : Nat → Nat → Int32) (J : Nat → Nat → Int64) (a0 : Int32) (a1 : Int32) : Option (Int32 × (Nat → Nat → Int32) × (Nat → Nat → Int64)) :=
  if (DX7_shelfAt a0) = 0 then
    (DX7_refuse I J ((-1 : Int32))).bind fun q1 =>
    some (q1.1, q1.2.1, q1.2.2)
  else
    if a1 = (-1 : Int32) then
      if ¬ a1 = (-1 : Int32) then
        (DX3_takeStuff I J ((DX7_shelfAt a0)) a1).bind fun q2 =>
        some ((1 : Int32), q2.2.1, q2.2.2)
      else
        (DX3_takeNothing I J ((DX7_shelfAt a0))).bind fun q3 =>
        some ((0 : Int32), q3.2.1, q3.2.2)
    else
      if ¬ (DX1_isStuff I 2 a1) = 0 then
        if ¬ a1 = (-1 : Int32) then
          (DX3_takeStuff I J ((DX7_shelfAt a0)) a1).bind fun q4 =>
          some ((1 : Int32), q4.2.1, q4.2.2)
        else
          (DX3_takeNothing I J ((DX7_shelfAt a0))).bind fun q5 =>
          some ((0 : Int32), q5.2.1, q5.2.2)
      else
        (DX7_refuse I J ((-1 : Int32))).bind fun q6 =>
        some (q6.1, q6.2.1, q6.2.2)
set_option maxHeartbeats 4000000 in
set_option maxRecDepth 100000 in
theorem axX7_show {I : Nat → Nat → Int32} {J : Nat → Nat → Int64} {a0 : Int32} {a1 : Int32} {r : Int32} {I' : Nat → Nat → Int32} {J' : Nat → Nat → Int64} (h : DX7_show I J a0 a1 = some (r, I', J')) : am_F 1 nX7_show [.ref 0, .int a0, .int a1, .retAddr 0] (TX, I, J, RX) (some (.int r)) (TX, I', J', RX) := by
  unfold DX7_show at h
  unfold am_F
  refine am_E.go (n := 1) rfl ?_
  refine am_E.callF rfl (by decide) (axX7_shelfAt _ _ _) ?_
  by_cases hp : (DX7_shelfAt a0) = 0
  · have h := (if_pos hp).symm.trans h
    rw [am_rv0 hp]
    refine am_E.go (n := 1) rfl ?_
    refine am_E.step rfl ?_
    refine am_E.go (n := 1) rfl ?_
    obtain ⟨q1, hq, h⟩ := am_bindI h
    obtain ⟨q1_1, q1_2, q1_3⟩ := q1
    refine am_E.callF rfl (by decide) (axX7_refuse hq) ?_
    cases h
    exact am_E.ret rfl ⟨rfl, rfl⟩
  · have h := (if_neg hp).symm.trans h
    rw [am_rv1 hp]
    have hsh0 := axX7_shelfId hp
    refine am_E.go (n := 1) rfl ?_
    refine am_E.grd rfl (am_lt9 (am_shLt hsh0)) ?_
    refine am_E.go (n := 1) rfl ?_
    refine am_E.brk rfl (fun hp => ?_) (fun hp => ?_)
    · have h := (if_pos hp).symm.trans h
      refine am_E.go (n := 1) rfl ?_
      refine am_E.brk rfl (fun hp => ?_) (fun hp => ?_)
      · have h := (if_pos hp).symm.trans h
        refine am_E.go (n := 1) rfl ?_
        obtain ⟨q2, hq, h⟩ := am_bindI h
        obtain ⟨q2_1, q2_2, q2_3⟩ := q2
        refine am_E.callGF rfl (am_shTag hsh0) (by decide) (axX3_takeStuff hsh0 hq) ?_
        refine am_E.go (n := 0) rfl ?_
        cases h
        exact am_E.ret rfl ⟨rfl, rfl⟩
      · have h := (if_neg hp).symm.trans h
        refine am_E.go (n := 0) rfl ?_
        obtain ⟨q3, hq, h⟩ := am_bindI h
        obtain ⟨q3_1, q3_2, q3_3⟩ := q3
        refine am_E.callGF rfl (am_shTag hsh0) (by decide) (axX3_takeNothing hsh0 hq) ?_
        refine am_E.go (n := 0) rfl ?_
        cases h
        exact am_E.ret rfl ⟨rfl, rfl⟩
    · have h := (if_neg hp).symm.trans h
      refine am_E.go (n := 2) rfl ?_
      refine am_E.callF rfl (by decide) (axX1_isStuff (by decide) rfl) ?_
      refine am_E.brk rfl (fun hp => ?_) (fun hp => ?_)
      · have h := (if_pos hp).symm.trans h
        refine am_E.go (n := 1) rfl ?_
        refine am_E.brk rfl (fun hp => ?_) (fun hp => ?_)
        · have h := (if_pos hp).symm.trans h
          refine am_E.go (n := 1) rfl ?_
          obtain ⟨q4, hq, h⟩ := am_bindI h
          obtain ⟨q4_1, q4_2, q4_3⟩ := q4
          refine am_E.callGF rfl (am_shTag hsh0) (by decide) (axX3_takeStuff hsh0 hq) ?_
          refine am_E.go (n := 0) rfl ?_
          cases h
          exact am_E.ret rfl ⟨rfl, rfl⟩
        · have h := (if_neg hp).symm.trans h
          refine am_E.go (n := 0) rfl ?_
          obtain ⟨q5, hq, h⟩ := am_bindI h
          obtain ⟨q5_1, q5_2, q5_3⟩ := q5
          refine am_E.callGF rfl (am_shTag hsh0) (by decide) (axX3_takeNothing hsh0 hq) ?_
          refine am_E.go (n := 0) rfl ?_
          cases h
          exact am_E.ret rfl ⟨rfl, rfl⟩
      · have h := (if_neg hp).symm.trans h
        refine am_E.go (n := 1) rfl ?_
        obtain ⟨q6, hq, h⟩ := am_bindI h
        obtain ⟨q6_1, q6_2, q6_3⟩ := q6
        refine am_E.callF rfl (by decide) (axX7_refuse hq) ?_
        cases h
        exact am_E.ret rfl ⟨rfl, rfl⟩
def DX7_holds (I : Nat → Nat → Int32) (a0 : Int32) : Int32 :=
  if (DX7_shelfAt a0) = 0 then
    (-1 : Int32)
  else
    (DX3_told I ((DX7_shelfAt a0)))
set_option maxHeartbeats 4000000 in
set_option maxRecDepth 100000 in
theorem axX7_holds {I : Nat → Nat → Int32} {J : Nat → Nat → Int64} {a0 : Int32} {r : Int32} (h : DX7_holds I a0 = r) : am_F 3 nX7_holds [.ref 0, .int a0, .retAddr 0] (TX, I, J, RX) (some (.int r)) (TX, I, J, RX) := by
  unfold DX7_holds at h
  unfold am_F
  refine am_E.go (n := 1) rfl ?_
  refine am_E.callF rfl (by decide) (axX7_shelfAt _ _ _) ?_
  by_cases hp : (DX7_shelfAt a0) = 0
  · have h := (if_pos hp).symm.trans h
    rw [am_rv0 hp]
    refine am_E.go (n := 1) rfl ?_
    refine am_E.step rfl ?_
    refine am_E.go (n := 1) rfl ?_
    subst h
    exact am_E.ret rfl ⟨rfl, rfl⟩
  · have h := (if_neg hp).symm.trans h
    rw [am_rv1 hp]
    have hsh0 := axX7_shelfId hp
    refine am_E.go (n := 1) rfl ?_
    refine am_E.grd rfl (am_lt9 (am_shLt hsh0)) ?_
    refine am_E.go (n := 0) rfl ?_
    refine am_E.callGF rfl (am_shTag hsh0) (by decide) (axX3_told hsh0 rfl) ?_
    subst h
    exact am_E.ret rfl ⟨rfl, rfl⟩
def DX7_saidAs (I : Nat → Nat → Int32) (a0 : Int32) (a1 : Int32) : Option Int32 :=
  if a1 = 0 then
    ((DX1_colourOf I 2 a0).bind fun q1 =>
    some q1)
  else if a1 = 1 then
    ((DX1_cellsLaidWith I 2 a0).bind fun q2 =>
    some q2)
  else if a1 = 2 then
    ((DX1_cellsPlannedWith I 2 a0).bind fun q3 =>
    some q3)
  else if a1 = 3 then
    ((DX1_kindOf I 2 a0).bind fun q4 =>
    (DX1_aOf I 2 a0).bind fun q5 =>
    (DX2_freshness q4 q5 ((24 : Int32)) ((0 : Int32)) ((2 : Int32))).bind fun q6 =>
    some q6)
  else if a1 = 4 then
    ((DX1_kindOf I 2 a0).bind fun q7 =>
    (DX1_aOf I 2 a0).bind fun q8 =>
    (DX2_freshness q7 q8 ((24 : Int32)) ((0 : Int32)) ((2 : Int32))).bind fun q9 =>
    some q9)
  else if a1 = 5 then
    ((DX1_kindOf I 2 a0).bind fun q10 =>
    (DX1_aOf I 2 a0).bind fun q11 =>
    (DX2_freshness q10 q11 ((24 : Int32)) ((0 : Int32)) ((2 : Int32))).bind fun q12 =>
    some q12)
  else if a1 = 6 then
    ((DX1_aOf I 2 a0).bind fun q13 =>
    some q13)
  else (DX1_kindOf I 2 a0).bind fun q14 =>
  (DX1_aOf I 2 a0).bind fun q15 =>
  (DX2_freshness q14 q15 ((24 : Int32)) ((0 : Int32)) ((2 : Int32))).bind fun q16 =>
  some q16
set_option maxHeartbeats 4000000 in
set_option maxRecDepth 100000 in
theorem axX7_saidAs {I : Nat → Nat → Int32} {J : Nat → Nat → Int64} {a0 : Int32} {a1 : Int32} {r : Int32} (h : DX7_saidAs I a0 a1 = some r) : am_F 2 nX7_saidAs [.ref 0, .int a0, .int a1] (TX, I, J, RX) (some (.int r)) (TX, I, J, RX) := by
  unfold DX7_saidAs at h
  unfold am_F
  refine am_E.go (n := 0) rfl ?_
  refine am_E.sw rfl ?_
  refine ⟨fun hp => ?_, fun hp => ?_⟩
  · have h := (if_pos hp).symm.trans h
    refine am_E.go (n := 2) rfl ?_
    obtain ⟨q1, hq, h⟩ := am_bindI h
    refine am_E.callF rfl (by decide) (axX1_colourOf (by decide) hq) ?_
    cases h
    exact am_E.ret rfl ⟨rfl, rfl⟩
  have h := (if_neg hp).symm.trans h
  refine ⟨fun hp => ?_, fun hp => ?_⟩
  · have h := (if_pos hp).symm.trans h
    refine am_E.go (n := 2) rfl ?_
    obtain ⟨q2, hq, h⟩ := am_bindI h
    refine am_E.callF rfl (by decide) (axX1_cellsLaidWith (by decide) hq) ?_
    cases h
    exact am_E.ret rfl ⟨rfl, rfl⟩
  have h := (if_neg hp).symm.trans h
  refine ⟨fun hp => ?_, fun hp => ?_⟩
  · have h := (if_pos hp).symm.trans h
    refine am_E.go (n := 2) rfl ?_
    obtain ⟨q3, hq, h⟩ := am_bindI h
    refine am_E.callF rfl (by decide) (axX1_cellsPlannedWith (by decide) hq) ?_
    cases h
    exact am_E.ret rfl ⟨rfl, rfl⟩
  have h := (if_neg hp).symm.trans h
  refine ⟨fun hp => ?_, fun hp => ?_⟩
  · have h := (if_pos hp).symm.trans h
    refine am_E.go (n := 2) rfl ?_
    obtain ⟨q4, hq, h⟩ := am_bindI h
    refine am_E.callF rfl (by decide) (axX1_kindOf (by decide) hq) ?_
    refine am_E.go (n := 2) rfl ?_
    obtain ⟨q5, hq, h⟩ := am_bindI h
    refine am_E.callF rfl (by decide) (axX1_aOf (by decide) hq) ?_
    refine am_E.go (n := 2) rfl ?_
    obtain ⟨q6, hq, h⟩ := am_bindI h
    refine am_E.callF rfl (by decide) (axX2_freshness hq) ?_
    cases h
    exact am_E.ret rfl ⟨rfl, rfl⟩
  have h := (if_neg hp).symm.trans h
  refine ⟨fun hp => ?_, fun hp => ?_⟩
  · have h := (if_pos hp).symm.trans h
    refine am_E.go (n := 2) rfl ?_
    obtain ⟨q7, hq, h⟩ := am_bindI h
    refine am_E.callF rfl (by decide) (axX1_kindOf (by decide) hq) ?_
    refine am_E.go (n := 2) rfl ?_
    obtain ⟨q8, hq, h⟩ := am_bindI h
    refine am_E.callF rfl (by decide) (axX1_aOf (by decide) hq) ?_
    refine am_E.go (n := 2) rfl ?_
    obtain ⟨q9, hq, h⟩ := am_bindI h
    refine am_E.callF rfl (by decide) (axX2_freshness hq) ?_
    cases h
    exact am_E.ret rfl ⟨rfl, rfl⟩
  have h := (if_neg hp).symm.trans h
  refine ⟨fun hp => ?_, fun hp => ?_⟩
  · have h := (if_pos hp).symm.trans h
    refine am_E.go (n := 2) rfl ?_
    obtain ⟨q10, hq, h⟩ := am_bindI h
    refine am_E.callF rfl (by decide) (axX1_kindOf (by decide) hq) ?_
    refine am_E.go (n := 2) rfl ?_
    obtain ⟨q11, hq, h⟩ := am_bindI h
    refine am_E.callF rfl (by decide) (axX1_aOf (by decide) hq) ?_
    refine am_E.go (n := 2) rfl ?_
    obtain ⟨q12, hq, h⟩ := am_bindI h
    refine am_E.callF rfl (by decide) (axX2_freshness hq) ?_
    cases h
    exact am_E.ret rfl ⟨rfl, rfl⟩
  have h := (if_neg hp).symm.trans h
  refine ⟨fun hp => ?_, fun hp => ?_⟩
  · have h := (if_pos hp).symm.trans h
    refine am_E.go (n := 2) rfl ?_
    obtain ⟨q13, hq, h⟩ := am_bindI h
    refine am_E.callF rfl (by decide) (axX1_aOf (by decide) hq) ?_
    cases h
    exact am_E.ret rfl ⟨rfl, rfl⟩
  have h := (if_neg hp).symm.trans h
  refine am_E.go (n := 2) rfl ?_
  obtain ⟨q14, hq, h⟩ := am_bindI h
  refine am_E.callF rfl (by decide) (axX1_kindOf (by decide) hq) ?_
  refine am_E.go (n := 2) rfl ?_
  obtain ⟨q15, hq, h⟩ := am_bindI h
  refine am_E.callF rfl (by decide) (axX1_aOf (by decide) hq) ?_
  refine am_E.go (n := 2) rfl ?_
  obtain ⟨q16, hq, h⟩ := am_bindI h
  refine am_E.callF rfl (by decide) (axX2_freshness hq) ?_
  cases h
  exact am_E.ret rfl ⟨rfl, rfl⟩
def DX7_says (I : Nat → Nat → Int32) (J : Nat → Nat → Int64) (a0 : Int32) (a1 : Int32) : Option (Int32 × (Nat → Nat → Int32) × (Nat → Nat → Int64)) :=
  if (DX7_shelfAt a0) = 0 then
    (DX7_refuse I J ((-1 : Int32))).bind fun q1 =>
    some (q1.1, q1.2.1, q1.2.2)
  else
    if a1 < 0 then
      (DX7_refuse I J ((-1 : Int32))).bind fun q2 =>
      some (q2.1, q2.2.1, q2.2.2)
    else
      if a1 < (7 : Int32) then
        if (DX3_holdsRow I ((DX7_shelfAt a0))) = 0 then
          if ¬ (DX3_holdsStuff I ((DX7_shelfAt a0))) = 0 then
            (DX1_kindOf I 2 ((DX3_stuffHeld I ((DX7_shelfAt a0))))).bind fun q3 =>
            (DX2_isUnder I q3 a1).bind fun q4 =>
            if ¬ q4 = 0 then
              (DX7_saidAs I ((DX3_stuffHeld I ((DX7_shelfAt a0)))) a1).bind fun q5 =>
              some (q5, I, J)
            else
              (DX7_refuse I J ((-2 : Int32))).bind fun q6 =>
              some (q6.1, q6.2.1, q6.2.2)
          else
            (DX7_refuse I J ((-3 : Int32))).bind fun q7 =>
            some (q7.1, q7.2.1, q7.2.2)
        else
          (DX7_refuse I J ((-2 : Int32))).bind fun q8 =>
          some (q8.1, q8.2.1, q8.2.2)
      else
        (DX7_refuse I J ((-1 : Int32))).bind fun q9 =>
        some (q9.1, q9.2.1, q9.2.2)
set_option maxHeartbeats 4000000 in
set_option maxRecDepth 100000 in
theorem axX7_says {I : Nat → Nat → Int32} {J : Nat → Nat → Int64} {a0 : Int32} {a1 : Int32} {r : Int32} {I' : Nat → Nat → Int32} {J' : Nat → Nat → Int64} (h : DX7_says I J a0 a1 = some (r, I', J')) : am_F 3 nX7_says [.ref 0, .int a0, .int a1, .retAddr 0, .retAddr 0] (TX, I, J, RX) (some (.int r)) (TX, I', J', RX) := by
  unfold DX7_says at h
  unfold am_F
  refine am_E.go (n := 1) rfl ?_
  refine am_E.callF rfl (by decide) (axX7_shelfAt _ _ _) ?_
  by_cases hp : (DX7_shelfAt a0) = 0
  · have h := (if_pos hp).symm.trans h
    rw [am_rv0 hp]
    refine am_E.go (n := 1) rfl ?_
    refine am_E.step rfl ?_
    refine am_E.go (n := 1) rfl ?_
    obtain ⟨q1, hq, h⟩ := am_bindI h
    obtain ⟨q1_1, q1_2, q1_3⟩ := q1
    refine am_E.callF rfl (by decide) (axX7_refuse hq) ?_
    cases h
    exact am_E.ret rfl ⟨rfl, rfl⟩
  · have h := (if_neg hp).symm.trans h
    rw [am_rv1 hp]
    have hsh0 := axX7_shelfId hp
    refine am_E.go (n := 1) rfl ?_
    refine am_E.grd rfl (am_lt9 (am_shLt hsh0)) ?_
    refine am_E.go (n := 0) rfl ?_
    refine am_E.brk rfl (fun hp => ?_) (fun hp => ?_)
    · have h := (if_pos hp).symm.trans h
      refine am_E.go (n := 1) rfl ?_
      obtain ⟨q2, hq, h⟩ := am_bindI h
      obtain ⟨q2_1, q2_2, q2_3⟩ := q2
      refine am_E.callF rfl (by decide) (axX7_refuse hq) ?_
      cases h
      exact am_E.ret rfl ⟨rfl, rfl⟩
    · have h := (if_neg hp).symm.trans h
      refine am_E.go (n := 1) rfl ?_
      refine am_E.brk rfl (fun hp => ?_) (fun hp => ?_)
      · have h := (if_pos hp).symm.trans h
        refine am_E.go (n := 0) rfl ?_
        refine am_E.callGF rfl (am_shTag hsh0) (by decide) (axX3_holdsRow hsh0 rfl) ?_
        refine am_E.brk rfl (fun hp => ?_) (fun hp => ?_)
        · have h := (if_pos hp).symm.trans h
          refine am_E.go (n := 0) rfl ?_
          refine am_E.callGF rfl (am_shTag hsh0) (by decide) (axX3_holdsStuff hsh0 rfl) ?_
          refine am_E.brk rfl (fun hp => ?_) (fun hp => ?_)
          · have h := (if_pos hp).symm.trans h
            refine am_E.go (n := 0) rfl ?_
            refine am_E.callGF rfl (am_shTag hsh0) (by decide) (axX3_stuffHeld hsh0 rfl) ?_
            refine am_E.go (n := 3) rfl ?_
            obtain ⟨q3, hq, h⟩ := am_bindI h
            refine am_E.callF rfl (by decide) (axX1_kindOf (by decide) hq) ?_
            refine am_E.go (n := 0) rfl ?_
            obtain ⟨q4, hq, h⟩ := am_bindI h
            refine am_E.callF rfl (by decide) (axX2_isUnder hq) ?_
            refine am_E.brk rfl (fun hp => ?_) (fun hp => ?_)
            · have h := (if_pos hp).symm.trans h
              refine am_E.go (n := 2) rfl ?_
              obtain ⟨q5, hq, h⟩ := am_bindI h
              refine am_E.callF rfl (by decide) (axX7_saidAs hq) ?_
              cases h
              exact am_E.ret rfl ⟨rfl, rfl⟩
            · have h := (if_neg hp).symm.trans h
              refine am_E.go (n := 1) rfl ?_
              obtain ⟨q6, hq, h⟩ := am_bindI h
              obtain ⟨q6_1, q6_2, q6_3⟩ := q6
              refine am_E.callF rfl (by decide) (axX7_refuse hq) ?_
              cases h
              exact am_E.ret rfl ⟨rfl, rfl⟩
          · have h := (if_neg hp).symm.trans h
            refine am_E.go (n := 1) rfl ?_
            obtain ⟨q7, hq, h⟩ := am_bindI h
            obtain ⟨q7_1, q7_2, q7_3⟩ := q7
            refine am_E.callF rfl (by decide) (axX7_refuse hq) ?_
            cases h
            exact am_E.ret rfl ⟨rfl, rfl⟩
        · have h := (if_neg hp).symm.trans h
          refine am_E.go (n := 1) rfl ?_
          obtain ⟨q8, hq, h⟩ := am_bindI h
          obtain ⟨q8_1, q8_2, q8_3⟩ := q8
          refine am_E.callF rfl (by decide) (axX7_refuse hq) ?_
          cases h
          exact am_E.ret rfl ⟨rfl, rfl⟩
      · have h := (if_neg hp).symm.trans h
        refine am_E.go (n := 1) rfl ?_
        obtain ⟨q9, hq, h⟩ := am_bindI h
        obtain ⟨q9_1, q9_2, q9_3⟩ := q9
        refine am_E.callF rfl (by decide) (axX7_refuse hq) ?_
        cases h
        exact am_E.ret rfl ⟨rfl, rfl⟩
def DX7_stuff (I : Nat → Nat → Int32) (J : Nat → Nat → Int64) (a0 : Int32) (a1 : Int32) (a2 : Int32) : Option (Int32 × (Nat → Nat → Int32) × (Nat → Nat → Int64)) :=
  if a0 < 0 then
    (DX7_refuse I J ((-1 : Int32))).bind fun q1 =>
    some (q1.1, q1.2.1, q1.2.2)
  else
    if a0 < (7 : Int32) then
      if a1 < 0 then
        (DX7_refuse I J ((-6 : Int32))).bind fun q2 =>
        some (q2.1, q2.2.1, q2.2.2)
      else
        if (8 : Int32) ≤ a1 then
          (DX7_refuse I J ((-6 : Int32))).bind fun q3 =>
          some (q3.1, q3.2.1, q3.2.2)
        else
          if a2 < 0 then
            (DX7_refuse I J ((-6 : Int32))).bind fun q4 =>
            some (q4.1, q4.2.1, q4.2.2)
          else
            if a2 ≤ (9 : Int32) then
              if ¬ (DX1_hasRoom I 2) = 0 then
                (DX1_addStuff I J 2 a0 a1 a2).bind fun q5 =>
                some (q5.1, q5.2.1, q5.2.2)
              else
                (DX7_refuse I J ((-7 : Int32))).bind fun q6 =>
                some (q6.1, q6.2.1, q6.2.2)
            else
              (DX7_refuse I J ((-6 : Int32))).bind fun q7 =>
              some (q7.1, q7.2.1, q7.2.2)
    else
      (DX7_refuse I J ((-1 : Int32))).bind fun q8 =>
      some (q8.1, q8.2.1, q8.2.2)
set_option maxHeartbeats 4000000 in
set_option maxRecDepth 100000 in
theorem axX7_stuff {I : Nat → Nat → Int32} {J : Nat → Nat → Int64} {a0 : Int32} {a1 : Int32} {a2 : Int32} {r : Int32} {I' : Nat → Nat → Int32} {J' : Nat → Nat → Int64} (h : DX7_stuff I J a0 a1 a2 = some (r, I', J')) : am_F 2 nX7_stuff [.ref 0, .int a0, .int a1, .int a2] (TX, I, J, RX) (some (.int r)) (TX, I', J', RX) := by
  unfold DX7_stuff at h
  unfold am_F
  refine am_E.go (n := 0) rfl ?_
  refine am_E.brk rfl (fun hp => ?_) (fun hp => ?_)
  · have h := (if_pos hp).symm.trans h
    refine am_E.go (n := 1) rfl ?_
    obtain ⟨q1, hq, h⟩ := am_bindI h
    obtain ⟨q1_1, q1_2, q1_3⟩ := q1
    refine am_E.callF rfl (by decide) (axX7_refuse hq) ?_
    cases h
    exact am_E.ret rfl ⟨rfl, rfl⟩
  · have h := (if_neg hp).symm.trans h
    refine am_E.go (n := 1) rfl ?_
    refine am_E.brk rfl (fun hp => ?_) (fun hp => ?_)
    · have h := (if_pos hp).symm.trans h
      refine am_E.go (n := 0) rfl ?_
      refine am_E.brk rfl (fun hp => ?_) (fun hp => ?_)
      · have h := (if_pos hp).symm.trans h
        refine am_E.go (n := 1) rfl ?_
        obtain ⟨q2, hq, h⟩ := am_bindI h
        obtain ⟨q2_1, q2_2, q2_3⟩ := q2
        refine am_E.callF rfl (by decide) (axX7_refuse hq) ?_
        cases h
        exact am_E.ret rfl ⟨rfl, rfl⟩
      · have h := (if_neg hp).symm.trans h
        refine am_E.go (n := 1) rfl ?_
        refine am_E.brk rfl (fun hp => ?_) (fun hp => ?_)
        · have h := (if_pos hp).symm.trans h
          refine am_E.go (n := 1) rfl ?_
          obtain ⟨q3, hq, h⟩ := am_bindI h
          obtain ⟨q3_1, q3_2, q3_3⟩ := q3
          refine am_E.callF rfl (by decide) (axX7_refuse hq) ?_
          cases h
          exact am_E.ret rfl ⟨rfl, rfl⟩
        · have h := (if_neg hp).symm.trans h
          refine am_E.go (n := 0) rfl ?_
          refine am_E.brk rfl (fun hp => ?_) (fun hp => ?_)
          · have h := (if_pos hp).symm.trans h
            refine am_E.go (n := 1) rfl ?_
            obtain ⟨q4, hq, h⟩ := am_bindI h
            obtain ⟨q4_1, q4_2, q4_3⟩ := q4
            refine am_E.callF rfl (by decide) (axX7_refuse hq) ?_
            cases h
            exact am_E.ret rfl ⟨rfl, rfl⟩
          · have h := (if_neg hp).symm.trans h
            refine am_E.go (n := 1) rfl ?_
            refine am_E.brk rfl (fun hp => ?_) (fun hp => ?_)
            · have h := (if_pos hp).symm.trans h
              refine am_E.go (n := 1) rfl ?_
              refine am_E.callF rfl (by decide) (axX1_hasRoom (by decide) rfl) ?_
              refine am_E.brk rfl (fun hp => ?_) (fun hp => ?_)
              · have h := (if_pos hp).symm.trans h
                refine am_E.go (n := 4) rfl ?_
                obtain ⟨q5, hq, h⟩ := am_bindI h
                obtain ⟨q5_1, q5_2, q5_3⟩ := q5
                refine am_E.callF rfl (by decide) (axX1_addStuff (by decide) hq) ?_
                cases h
                exact am_E.ret rfl ⟨rfl, rfl⟩
              · have h := (if_neg hp).symm.trans h
                refine am_E.go (n := 1) rfl ?_
                obtain ⟨q6, hq, h⟩ := am_bindI h
                obtain ⟨q6_1, q6_2, q6_3⟩ := q6
                refine am_E.callF rfl (by decide) (axX7_refuse hq) ?_
                cases h
                exact am_E.ret rfl ⟨rfl, rfl⟩
            · have h := (if_neg hp).symm.trans h
              refine am_E.go (n := 1) rfl ?_
              obtain ⟨q7, hq, h⟩ := am_bindI h
              obtain ⟨q7_1, q7_2, q7_3⟩ := q7
              refine am_E.callF rfl (by decide) (axX7_refuse hq) ?_
              cases h
              exact am_E.ret rfl ⟨rfl, rfl⟩
    · have h := (if_neg hp).symm.trans h
      refine am_E.go (n := 1) rfl ?_
      obtain ⟨q8, hq, h⟩ := am_bindI h
      obtain ⟨q8_1, q8_2, q8_3⟩ := q8
      refine am_E.callF rfl (by decide) (axX7_refuse hq) ?_
      cases h
      exact am_E.ret rfl ⟨rfl, rfl⟩
def DX7_stuffOf (I : Nat → Nat → Int32) (J : Nat → Nat → Int64) (a0 : Int32) (a1 : Int32) : Option (Int32 × (Nat → Nat → Int32) × (Nat → Nat → Int64)) :=
  if ¬ (DX1_isStuff I 2 a0) = 0 then
    if a1 = 0 then
      ((DX1_kindOf I 2 a0).bind fun q1 =>
      some (q1, I, J))
    else if a1 = 1 then
      ((DX1_colourOf I 2 a0).bind fun q2 =>
      some (q2, I, J))
    else if a1 = 2 then
      ((DX1_aOf I 2 a0).bind fun q3 =>
      some (q3, I, J))
    else (DX7_refuse I J ((-5 : Int32))).bind fun q4 =>
    some (q4.1, q4.2.1, q4.2.2)
  else
    (DX7_refuse I J ((-5 : Int32))).bind fun q5 =>
    some (q5.1, q5.2.1, q5.2.2)
set_option maxHeartbeats 4000000 in
set_option maxRecDepth 100000 in
theorem axX7_stuffOf {I : Nat → Nat → Int32} {J : Nat → Nat → Int64} {a0 : Int32} {a1 : Int32} {r : Int32} {I' : Nat → Nat → Int32} {J' : Nat → Nat → Int64} (h : DX7_stuffOf I J a0 a1 = some (r, I', J')) : am_F 2 nX7_stuffOf [.ref 0, .int a0, .int a1] (TX, I, J, RX) (some (.int r)) (TX, I', J', RX) := by
  unfold DX7_stuffOf at h
  unfold am_F
  refine am_E.go (n := 2) rfl ?_
  refine am_E.callF rfl (by decide) (axX1_isStuff (by decide) rfl) ?_
  refine am_E.brk rfl (fun hp => ?_) (fun hp => ?_)
  · have h := (if_pos hp).symm.trans h
    refine am_E.go (n := 0) rfl ?_
    refine am_E.sw rfl ?_
    refine ⟨fun hp => ?_, fun hp => ?_⟩
    · have h := (if_pos hp).symm.trans h
      refine am_E.go (n := 2) rfl ?_
      obtain ⟨q1, hq, h⟩ := am_bindI h
      refine am_E.callF rfl (by decide) (axX1_kindOf (by decide) hq) ?_
      cases h
      exact am_E.ret rfl ⟨rfl, rfl⟩
    have h := (if_neg hp).symm.trans h
    refine ⟨fun hp => ?_, fun hp => ?_⟩
    · have h := (if_pos hp).symm.trans h
      refine am_E.go (n := 2) rfl ?_
      obtain ⟨q2, hq, h⟩ := am_bindI h
      refine am_E.callF rfl (by decide) (axX1_colourOf (by decide) hq) ?_
      cases h
      exact am_E.ret rfl ⟨rfl, rfl⟩
    have h := (if_neg hp).symm.trans h
    refine ⟨fun hp => ?_, fun hp => ?_⟩
    · have h := (if_pos hp).symm.trans h
      refine am_E.go (n := 2) rfl ?_
      obtain ⟨q3, hq, h⟩ := am_bindI h
      refine am_E.callF rfl (by decide) (axX1_aOf (by decide) hq) ?_
      cases h
      exact am_E.ret rfl ⟨rfl, rfl⟩
    have h := (if_neg hp).symm.trans h
    refine am_E.go (n := 1) rfl ?_
    obtain ⟨q4, hq, h⟩ := am_bindI h
    obtain ⟨q4_1, q4_2, q4_3⟩ := q4
    refine am_E.callF rfl (by decide) (axX7_refuse hq) ?_
    cases h
    exact am_E.ret rfl ⟨rfl, rfl⟩
  · have h := (if_neg hp).symm.trans h
    refine am_E.go (n := 1) rfl ?_
    obtain ⟨q5, hq, h⟩ := am_bindI h
    obtain ⟨q5_1, q5_2, q5_3⟩ := q5
    refine am_E.callF rfl (by decide) (axX7_refuse hq) ?_
    cases h
    exact am_E.ret rfl ⟨rfl, rfl⟩
def DX7_cell (I : Nat → Nat → Int32) (J : Nat → Nat → Int64) (a0 : Int32) (a1 : Int32) : Option (Int32 × (Nat → Nat → Int32) × (Nat → Nat → Int64)) :=
  if ¬ (DX7_isCell a0) = 0 then
    if a1 < (-1 : Int32) then
      (DX7_refuse I J ((-6 : Int32))).bind fun q1 =>
      some (q1.1, q1.2.1, q1.2.2)
    else
      if a1 < (8 : Int32) then
        (DX1_draw I J 2 a0 a1).bind fun q2 =>
        if ¬ a1 = (-1 : Int32) then
          some ((1 : Int32), q2.2.1, q2.2.2)
        else
          some ((0 : Int32), q2.2.1, q2.2.2)
      else
        (DX7_refuse I J ((-6 : Int32))).bind fun q3 =>
        some (q3.1, q3.2.1, q3.2.2)
  else
    (DX7_refuse I J ((-1 : Int32))).bind fun q4 =>
    some (q4.1, q4.2.1, q4.2.2)
set_option maxHeartbeats 4000000 in
set_option maxRecDepth 100000 in
theorem axX7_cell {I : Nat → Nat → Int32} {J : Nat → Nat → Int64} {a0 : Int32} {a1 : Int32} {r : Int32} {I' : Nat → Nat → Int32} {J' : Nat → Nat → Int64} (h : DX7_cell I J a0 a1 = some (r, I', J')) : am_F 2 nX7_cell [.ref 0, .int a0, .int a1] (TX, I, J, RX) (some (.int r)) (TX, I', J', RX) := by
  unfold DX7_cell at h
  unfold am_F
  refine am_E.go (n := 0) rfl ?_
  refine am_E.callF rfl (by decide) (axX7_isCell rfl) ?_
  refine am_E.brk rfl (fun hp => ?_) (fun hp => ?_)
  · have h := (if_pos hp).symm.trans h
    refine am_E.go (n := 1) rfl ?_
    refine am_E.brk rfl (fun hp => ?_) (fun hp => ?_)
    · have h := (if_pos hp).symm.trans h
      refine am_E.go (n := 1) rfl ?_
      obtain ⟨q1, hq, h⟩ := am_bindI h
      obtain ⟨q1_1, q1_2, q1_3⟩ := q1
      refine am_E.callF rfl (by decide) (axX7_refuse hq) ?_
      cases h
      exact am_E.ret rfl ⟨rfl, rfl⟩
    · have h := (if_neg hp).symm.trans h
      refine am_E.go (n := 1) rfl ?_
      refine am_E.brk rfl (fun hp => ?_) (fun hp => ?_)
      · have h := (if_pos hp).symm.trans h
        refine am_E.go (n := 3) rfl ?_
        obtain ⟨q2, hq, h⟩ := am_bindI h
        obtain ⟨q2_1, q2_2, q2_3⟩ := q2
        refine am_E.callF rfl (by decide) (axX1_draw (by decide) hq) ?_
        refine am_E.go (n := 1) rfl ?_
        refine am_E.brk rfl (fun hp => ?_) (fun hp => ?_)
        · have h := (if_pos hp).symm.trans h
          refine am_E.go (n := 0) rfl ?_
          cases h
          exact am_E.ret rfl ⟨rfl, rfl⟩
        · have h := (if_neg hp).symm.trans h
          refine am_E.go (n := 1) rfl ?_
          cases h
          exact am_E.ret rfl ⟨rfl, rfl⟩
      · have h := (if_neg hp).symm.trans h
        refine am_E.go (n := 1) rfl ?_
        obtain ⟨q3, hq, h⟩ := am_bindI h
        obtain ⟨q3_1, q3_2, q3_3⟩ := q3
        refine am_E.callF rfl (by decide) (axX7_refuse hq) ?_
        cases h
        exact am_E.ret rfl ⟨rfl, rfl⟩
  · have h := (if_neg hp).symm.trans h
    refine am_E.go (n := 1) rfl ?_
    obtain ⟨q4, hq, h⟩ := am_bindI h
    obtain ⟨q4_1, q4_2, q4_3⟩ := q4
    refine am_E.callF rfl (by decide) (axX7_refuse hq) ?_
    cases h
    exact am_E.ret rfl ⟨rfl, rfl⟩
def DX7_cellOf (I : Nat → Nat → Int32) (J : Nat → Nat → Int64) (a0 : Int32) (a1 : Int32) : Option (Int32 × (Nat → Nat → Int32) × (Nat → Nat → Int64)) :=
  if ¬ (DX7_isCell a0) = 0 then
    if a1 = 0 then
      ((DX1_drawnAt I 2 a0).bind fun q1 =>
      some (q1, I, J))
    else if a1 = 1 then
      ((DX1_laidAt I 2 a0).bind fun q2 =>
      some (q2, I, J))
    else if a1 = 2 then
      ((DX1_plannedAt I 2 a0).bind fun q3 =>
      some (q3, I, J))
    else if a1 = 3 then
      ((DX1_sunAt I 2 a0).bind fun q4 =>
      some (q4, I, J))
    else if a1 = 4 then
      ((DX1_shadeAt I 2 a0).bind fun q5 =>
      some (q5, I, J))
    else if a1 = 5 then
      ((DX1_spraysAt I 2 a0).bind fun q6 =>
      some (q6, I, J))
    else (DX7_refuse I J ((-15 : Int32))).bind fun q7 =>
    some (q7.1, q7.2.1, q7.2.2)
  else
    (DX7_refuse I J ((-15 : Int32))).bind fun q8 =>
    some (q8.1, q8.2.1, q8.2.2)
set_option maxHeartbeats 4000000 in
set_option maxRecDepth 100000 in
theorem axX7_cellOf {I : Nat → Nat → Int32} {J : Nat → Nat → Int64} {a0 : Int32} {a1 : Int32} {r : Int32} {I' : Nat → Nat → Int32} {J' : Nat → Nat → Int64} (h : DX7_cellOf I J a0 a1 = some (r, I', J')) : am_F 2 nX7_cellOf [.ref 0, .int a0, .int a1] (TX, I, J, RX) (some (.int r)) (TX, I', J', RX) := by
  unfold DX7_cellOf at h
  unfold am_F
  refine am_E.go (n := 0) rfl ?_
  refine am_E.callF rfl (by decide) (axX7_isCell rfl) ?_
  refine am_E.brk rfl (fun hp => ?_) (fun hp => ?_)
  · have h := (if_pos hp).symm.trans h
    refine am_E.go (n := 0) rfl ?_
    refine am_E.sw rfl ?_
    refine ⟨fun hp => ?_, fun hp => ?_⟩
    · have h := (if_pos hp).symm.trans h
      refine am_E.go (n := 2) rfl ?_
      obtain ⟨q1, hq, h⟩ := am_bindI h
      refine am_E.callF rfl (by decide) (axX1_drawnAt (by decide) hq) ?_
      cases h
      exact am_E.ret rfl ⟨rfl, rfl⟩
    have h := (if_neg hp).symm.trans h
    refine ⟨fun hp => ?_, fun hp => ?_⟩
    · have h := (if_pos hp).symm.trans h
      refine am_E.go (n := 2) rfl ?_
      obtain ⟨q2, hq, h⟩ := am_bindI h
      refine am_E.callF rfl (by decide) (axX1_laidAt (by decide) hq) ?_
      cases h
      exact am_E.ret rfl ⟨rfl, rfl⟩
    have h := (if_neg hp).symm.trans h
    refine ⟨fun hp => ?_, fun hp => ?_⟩
    · have h := (if_pos hp).symm.trans h
      refine am_E.go (n := 2) rfl ?_
      obtain ⟨q3, hq, h⟩ := am_bindI h
      refine am_E.callF rfl (by decide) (axX1_plannedAt (by decide) hq) ?_
      cases h
      exact am_E.ret rfl ⟨rfl, rfl⟩
    have h := (if_neg hp).symm.trans h
    refine ⟨fun hp => ?_, fun hp => ?_⟩
    · have h := (if_pos hp).symm.trans h
      refine am_E.go (n := 2) rfl ?_
      obtain ⟨q4, hq, h⟩ := am_bindI h
      refine am_E.callF rfl (by decide) (axX1_sunAt (by decide) hq) ?_
      cases h
      exact am_E.ret rfl ⟨rfl, rfl⟩
    have h := (if_neg hp).symm.trans h
    refine ⟨fun hp => ?_, fun hp => ?_⟩
    · have h := (if_pos hp).symm.trans h
      refine am_E.go (n := 2) rfl ?_
      obtain ⟨q5, hq, h⟩ := am_bindI h
      refine am_E.callF rfl (by decide) (axX1_shadeAt (by decide) hq) ?_
      cases h
      exact am_E.ret rfl ⟨rfl, rfl⟩
    have h := (if_neg hp).symm.trans h
    refine ⟨fun hp => ?_, fun hp => ?_⟩
    · have h := (if_pos hp).symm.trans h
      refine am_E.go (n := 2) rfl ?_
      obtain ⟨q6, hq, h⟩ := am_bindI h
      refine am_E.callF rfl (by decide) (axX1_spraysAt (by decide) hq) ?_
      cases h
      exact am_E.ret rfl ⟨rfl, rfl⟩
    have h := (if_neg hp).symm.trans h
    refine am_E.go (n := 1) rfl ?_
    obtain ⟨q7, hq, h⟩ := am_bindI h
    obtain ⟨q7_1, q7_2, q7_3⟩ := q7
    refine am_E.callF rfl (by decide) (axX7_refuse hq) ?_
    cases h
    exact am_E.ret rfl ⟨rfl, rfl⟩
  · have h := (if_neg hp).symm.trans h
    refine am_E.go (n := 1) rfl ?_
    obtain ⟨q8, hq, h⟩ := am_bindI h
    obtain ⟨q8_1, q8_2, q8_3⟩ := q8
    refine am_E.callF rfl (by decide) (axX7_refuse hq) ?_
    cases h
    exact am_E.ret rfl ⟨rfl, rfl⟩
def DX7_plan (I : Nat → Nat → Int32) (J : Nat → Nat → Int64) (a0 : Int32) (a1 : Int32) : Option (Int32 × (Nat → Nat → Int32) × (Nat → Nat → Int64)) :=
  if (DX7_isCell a0) = 0 then
    (DX7_refuse I J ((-1 : Int32))).bind fun q1 =>
    some (q1.1, q1.2.1, q1.2.2)
  else
    if a1 = (-1 : Int32) then
      (DX1_planFor I J 2 a0 a1).bind fun q2 =>
      if ¬ a1 = (-1 : Int32) then
        some ((1 : Int32), q2.2.1, q2.2.2)
      else
        some ((0 : Int32), q2.2.1, q2.2.2)
    else
      if ¬ (DX1_isStuff I 2 a1) = 0 then
        (DX1_planFor I J 2 a0 a1).bind fun q3 =>
        if ¬ a1 = (-1 : Int32) then
          some ((1 : Int32), q3.2.1, q3.2.2)
        else
          some ((0 : Int32), q3.2.1, q3.2.2)
      else
        (DX7_refuse I J ((-1 : Int32))).bind fun q4 =>
        some (q4.1, q4.2.1, q4.2.2)
set_option maxHeartbeats 4000000 in
set_option maxRecDepth 100000 in
theorem axX7_plan {I : Nat → Nat → Int32} {J : Nat → Nat → Int64} {a0 : Int32} {a1 : Int32} {r : Int32} {I' : Nat → Nat → Int32} {J' : Nat → Nat → Int64} (h : DX7_plan I J a0 a1 = some (r, I', J')) : am_F 2 nX7_plan [.ref 0, .int a0, .int a1] (TX, I, J, RX) (some (.int r)) (TX, I', J', RX) := by
  unfold DX7_plan at h
  unfold am_F
  refine am_E.go (n := 0) rfl ?_
  refine am_E.callF rfl (by decide) (axX7_isCell rfl) ?_
  refine am_E.brk rfl (fun hp => ?_) (fun hp => ?_)
  · have h := (if_pos hp).symm.trans h
    refine am_E.go (n := 1) rfl ?_
    obtain ⟨q1, hq, h⟩ := am_bindI h
    obtain ⟨q1_1, q1_2, q1_3⟩ := q1
    refine am_E.callF rfl (by decide) (axX7_refuse hq) ?_
    cases h
    exact am_E.ret rfl ⟨rfl, rfl⟩
  · have h := (if_neg hp).symm.trans h
    refine am_E.go (n := 1) rfl ?_
    refine am_E.brk rfl (fun hp => ?_) (fun hp => ?_)
    · have h := (if_pos hp).symm.trans h
      refine am_E.go (n := 3) rfl ?_
      obtain ⟨q2, hq, h⟩ := am_bindI h
      obtain ⟨q2_1, q2_2, q2_3⟩ := q2
      refine am_E.callF rfl (by decide) (axX1_planFor (by decide) hq) ?_
      refine am_E.go (n := 1) rfl ?_
      refine am_E.brk rfl (fun hp => ?_) (fun hp => ?_)
      · have h := (if_pos hp).symm.trans h
        refine am_E.go (n := 0) rfl ?_
        cases h
        exact am_E.ret rfl ⟨rfl, rfl⟩
      · have h := (if_neg hp).symm.trans h
        refine am_E.go (n := 1) rfl ?_
        cases h
        exact am_E.ret rfl ⟨rfl, rfl⟩
    · have h := (if_neg hp).symm.trans h
      refine am_E.go (n := 2) rfl ?_
      refine am_E.callF rfl (by decide) (axX1_isStuff (by decide) rfl) ?_
      refine am_E.brk rfl (fun hp => ?_) (fun hp => ?_)
      · have h := (if_pos hp).symm.trans h
        refine am_E.go (n := 3) rfl ?_
        obtain ⟨q3, hq, h⟩ := am_bindI h
        obtain ⟨q3_1, q3_2, q3_3⟩ := q3
        refine am_E.callF rfl (by decide) (axX1_planFor (by decide) hq) ?_
        refine am_E.go (n := 1) rfl ?_
        refine am_E.brk rfl (fun hp => ?_) (fun hp => ?_)
        · have h := (if_pos hp).symm.trans h
          refine am_E.go (n := 0) rfl ?_
          cases h
          exact am_E.ret rfl ⟨rfl, rfl⟩
        · have h := (if_neg hp).symm.trans h
          refine am_E.go (n := 1) rfl ?_
          cases h
          exact am_E.ret rfl ⟨rfl, rfl⟩
      · have h := (if_neg hp).symm.trans h
        refine am_E.go (n := 1) rfl ?_
        obtain ⟨q4, hq, h⟩ := am_bindI h
        obtain ⟨q4_1, q4_2, q4_3⟩ := q4
        refine am_E.callF rfl (by decide) (axX7_refuse hq) ?_
        cases h
        exact am_E.ret rfl ⟨rfl, rfl⟩
