/-! THE METHODS AS FUNCTIONS over the memory, and the row that their runs do so: laid by program (wip/whole/decomp.py) -/
def LX6_begin : Nat → Nat → (Nat → Nat → Int32) → (Nat → Nat → Int64) → Nat → Int32 → Int32 → Option (Int32 × (Nat → Nat → Int32) × (Nat → Nat → Int64))
  | 0, _, _, _, _, _, _ => none
  | n + 1, 0, I, J, g0, x2, x3 =>
    if (4 : Int32) ≤ x2 then
      some ((0 : Int32), I, J)
    else
      if ¬ (x2 < 0 ∨ 4 ≤ (x2).toNatClampNeg) then
        if ¬ (x2 < 0 ∨ 4 ≤ (x2).toNatClampNeg) then
          if ¬ (x2 < 0 ∨ 4 ≤ (x2).toNatClampNeg) then
            (some (am_upI ((am_upI ((am_upI I 35 (x2).toNatClampNeg (5 : Int32))) 37 (x2).toNatClampNeg (-1 : Int32))) 36 (x2).toNatClampNeg (0 : Int32))).bind fun I3 =>
            LX6_begin n 1 I3 J g0 x2 ((0 : Int32))
          else none
        else none
      else none
  | n + 1, _, I, J, g0, x2, x3 =>
    if (6 : Int32) ≤ x3 then
      LX6_begin n 0 I J g0 ((x2 + (1 : Int32))) 0
    else
      if ¬ (x2 < 0 ∨ 4 ≤ (x2).toNatClampNeg) then
        (DX6_minutesFor I g0 (((x3 * (4 : Int32)) + x2))).bind fun q4 =>
        if ¬ (x2 < 0 ∨ 4 ≤ (x2).toNatClampNeg) then
          LX6_begin n 1 ((am_upI I 36 (x2).toNatClampNeg ((I 36 (x2).toNatClampNeg) + q4))) J g0 x2 ((x3 + (1 : Int32)))
        else none
      else none
def DX6_begin (I : Nat → Nat → Int32) (J : Nat → Nat → Int64) (g0 : Nat) : Option (Int32 × (Nat → Nat → Int32) × (Nat → Nat → Int64)) :=
  LX6_begin am_FU 0 I J g0 ((0 : Int32)) 0
set_option maxHeartbeats 4000000 in
set_option maxRecDepth 100000 in
theorem alX6_begin : ∀ (n : Nat), (∀ {I : Nat → Nat → Int32} {J : Nat → Nat → Int64} {g0 : Nat} {x2 : Int32} {x3 : Int32} {I' : Nat → Nat → Int32} {J' : Nat → Nat → Int64} {r : Int32}, dm_b g0 → LX6_begin n 0 I J g0 x2 x3 = some (r, I', J') → am_E 3 nX6_begin (2, [.ref 34, .ref g0, .int x2, .retAddr 0], [], (TX, I, J, RX)) (fun v M' => v = none ∧ M' = (TX, I', J', RX))) ∧
    (∀ {I : Nat → Nat → Int32} {J : Nat → Nat → Int64} {g0 : Nat} {x2 : Int32} {x3 : Int32} {I' : Nat → Nat → Int32} {J' : Nat → Nat → Int64} {r : Int32}, dm_b g0 → LX6_begin n 1 I J g0 x2 x3 = some (r, I', J') → am_E 3 nX6_begin (30, [.ref 34, .ref g0, .int x2, .int x3], [], (TX, I, J, RX)) (fun v M' => v = none ∧ M' = (TX, I', J', RX))) := by
  intro n
  induction n with
  | zero => exact ⟨by intros; contradiction, by intros; contradiction⟩
  | succ n ih =>
    refine ⟨?_, ?_⟩
    · intro I J g0 x2 x3 I' J' r hg0 h
      simp only [LX6_begin] at h
      unfold dm_b at hg0
      rcases hg0 with rfl | rfl | rfl
      all_goals
        refine am_E.go (n := 1) rfl ?_
        refine am_E.brk rfl (fun hp => ?_) (fun hp => ?_)
        · have h := (if_pos hp).symm.trans h
          cases h
          exact am_E.ret rfl ⟨rfl, rfl⟩
        · have h := (if_neg hp).symm.trans h
          refine am_E.go (n := 3) rfl ?_
          obtain ⟨hg, h⟩ := am_ifI h
          refine am_E.grd rfl hg ?_
          refine am_E.go (n := 3) rfl ?_
          obtain ⟨hg, h⟩ := am_ifI h
          refine am_E.grd rfl hg ?_
          refine am_E.go (n := 3) rfl ?_
          obtain ⟨hg, h⟩ := am_ifI h
          refine am_E.grd rfl hg ?_
          obtain ⟨I3, hI, h⟩ := am_bindI h
          obtain rfl := Option.some.inj hI
          refine am_E.go (n := 1) rfl ?_
          exact ih.2 (by decide) h
    · intro I J g0 x2 x3 I' J' r hg0 h
      simp only [LX6_begin] at h
      unfold dm_b at hg0
      rcases hg0 with rfl | rfl | rfl
      all_goals
        refine am_E.go (n := 1) rfl ?_
        refine am_E.brk rfl (fun hp => ?_) (fun hp => ?_)
        · have h := (if_pos hp).symm.trans h
          refine am_E.go (n := 1) rfl ?_
          refine am_E.less (ls0 := [_, _, _, .retAddr 0]) ?_ ⟨Or.inl rfl, Or.inl rfl, Or.inl rfl, Or.inr ⟨rfl, rfl⟩, trivial⟩
          exact ih.1 (by decide) h
        · have h := (if_neg hp).symm.trans h
          refine am_E.go (n := 3) rfl ?_
          obtain ⟨hg, h⟩ := am_ifI h
          refine am_E.grd rfl hg ?_
          refine am_E.go (n := 5) rfl ?_
          obtain ⟨q4, hq, h⟩ := am_bindI h
          refine am_E.callF rfl (by decide) (axX6_minutesFor (by decide) hq) ?_
          refine am_E.go (n := 0) rfl ?_
          obtain ⟨hg, h⟩ := am_ifI h
          refine am_E.grd rfl hg ?_
          refine am_E.go (n := 1) rfl ?_
          exact ih.2 (by decide) h
set_option maxHeartbeats 4000000 in
set_option maxRecDepth 100000 in
theorem axX6_begin {I : Nat → Nat → Int32} {J : Nat → Nat → Int64} {g0 : Nat} {r : Int32} {I' : Nat → Nat → Int32} {J' : Nat → Nat → Int64} (hg0 : dm_b g0) (h : DX6_begin I J g0 = some (r, I', J')) : am_F 3 nX6_begin [.ref 34, .ref g0, .retAddr 0, .retAddr 0] (TX, I, J, RX) (none) (TX, I', J', RX) := by
  unfold DX6_begin at h
  unfold am_F
  unfold dm_b at hg0
  rcases hg0 with rfl | rfl | rfl
  all_goals
    refine am_E.go (n := 1) rfl ?_
    exact (alX6_begin am_FU).1 (by decide) h
def LX6_finish : Nat → (Nat → Nat → Int32) → (Nat → Nat → Int64) → Int32 → Int32 → Int32 → Option (Int32 × (Nat → Nat → Int32) × (Nat → Nat → Int64))
  | 0, _, _, _, _, _ => none
  | n + 1, I, J, x1, x2, x3 =>
    if (4 : Int32) ≤ x3 then
      some (x2, I, J)
    else
      if ¬ (x3 < 0 ∨ 4 ≤ (x3).toNatClampNeg) then
        if ¬ (I 37 (x3).toNatClampNeg) = x1 then
          LX6_finish n I J x1 x2 ((x3 + (1 : Int32)))
        else
          if ¬ (x3 < 0 ∨ 4 ≤ (x3).toNatClampNeg) then
            LX6_finish n ((am_upI I 37 (x3).toNatClampNeg (-1 : Int32))) J x1 ((x2 + (1 : Int32))) ((x3 + (1 : Int32)))
          else none
      else none
def DX6_finish (I : Nat → Nat → Int32) (J : Nat → Nat → Int64) (a0 : Int32) : Option (Int32 × (Nat → Nat → Int32) × (Nat → Nat → Int64)) :=
  LX6_finish am_FU I J a0 ((0 : Int32)) ((0 : Int32))
set_option maxHeartbeats 4000000 in
set_option maxRecDepth 100000 in
theorem alX6_finish : ∀ (n : Nat), ∀ {I : Nat → Nat → Int32} {J : Nat → Nat → Int64} {x1 : Int32} {x2 : Int32} {x3 : Int32} {I' : Nat → Nat → Int32} {J' : Nat → Nat → Int64} {r : Int32}, LX6_finish n I J x1 x2 x3 = some (r, I', J') → am_E 0 nX6_finish (4, [.ref 34, .int x1, .int x2, .int x3], [], (TX, I, J, RX)) (fun v M' => v = some (.int r) ∧ M' = (TX, I', J', RX)) := by
  intro n
  induction n with
  | zero => intros; contradiction
  | succ n ih =>
    intro I J x1 x2 x3 I' J' r h
    simp only [LX6_finish] at h
    refine am_E.go (n := 1) rfl ?_
    refine am_E.brk rfl (fun hp => ?_) (fun hp => ?_)
    · have h := (if_pos hp).symm.trans h
      refine am_E.go (n := 0) rfl ?_
      cases h
      exact am_E.ret rfl ⟨rfl, rfl⟩
    · have h := (if_neg hp).symm.trans h
      refine am_E.go (n := 2) rfl ?_
      obtain ⟨hg, h⟩ := am_ifI h
      refine am_E.grd rfl hg ?_
      refine am_E.go (n := 0) rfl ?_
      refine am_E.brk rfl (fun hp => ?_) (fun hp => ?_)
      · have h := (if_pos hp).symm.trans h
        refine am_E.go (n := 1) rfl ?_
        exact ih h
      · have h := (if_neg hp).symm.trans h
        refine am_E.go (n := 3) rfl ?_
        obtain ⟨hg, h⟩ := am_ifI h
        refine am_E.grd rfl hg ?_
        refine am_E.go (n := 2) rfl ?_
        exact ih h
set_option maxHeartbeats 4000000 in
set_option maxRecDepth 100000 in
theorem axX6_finish {I : Nat → Nat → Int32} {J : Nat → Nat → Int64} {a0 : Int32} {r : Int32} {I' : Nat → Nat → Int32} {J' : Nat → Nat → Int64} (h : DX6_finish I J a0 = some (r, I', J')) : am_F 0 nX6_finish [.ref 34, .int a0, .retAddr 0, .retAddr 0] (TX, I, J, RX) (some (.int r)) (TX, I', J', RX) := by
  unfold DX6_finish at h
  unfold am_F
  refine am_E.go (n := 3) rfl ?_
  exact (alX6_finish am_FU) h
def LX6_fullestIdleColumn : Nat → (Nat → Nat → Int32) → Int32 → Int32 → Int32 → Option Int32
  | 0, _, _, _, _ => none
  | n + 1, I, x1, x2, x3 =>
    if (4 : Int32) ≤ x3 then
      some x1
    else
      if ¬ (x3 < 0 ∨ 4 ≤ (x3).toNatClampNeg) then
        if ¬ (I 37 (x3).toNatClampNeg) = (-1 : Int32) then
          LX6_fullestIdleColumn n I x1 x2 ((x3 + (1 : Int32)))
        else
          if ¬ (x3 < 0 ∨ 4 ≤ (x3).toNatClampNeg) then
            if (I 36 (x3).toNatClampNeg) ≤ x2 then
              LX6_fullestIdleColumn n I x1 x2 ((x3 + (1 : Int32)))
            else
              if ¬ (x3 < 0 ∨ 4 ≤ (x3).toNatClampNeg) then
                LX6_fullestIdleColumn n I x3 ((I 36 (x3).toNatClampNeg)) ((x3 + (1 : Int32)))
              else none
          else none
      else none
def DX6_fullestIdleColumn (I : Nat → Nat → Int32) : Option Int32 :=
  LX6_fullestIdleColumn am_FU I ((-1 : Int32)) ((0 : Int32)) ((0 : Int32))
set_option maxHeartbeats 4000000 in
set_option maxRecDepth 100000 in
theorem alX6_fullestIdleColumn : ∀ (n : Nat), ∀ {I : Nat → Nat → Int32} {J : Nat → Nat → Int64} {x1 : Int32} {x2 : Int32} {x3 : Int32} {r : Int32}, LX6_fullestIdleColumn n I x1 x2 x3 = some r → am_E 0 nX6_fullestIdleColumn (6, [.ref 34, .int x1, .int x2, .int x3], [], (TX, I, J, RX)) (fun v M' => v = some (.int r) ∧ M' = (TX, I, J, RX)) := by
  intro n
  induction n with
  | zero => intros; contradiction
  | succ n ih =>
    intro I J x1 x2 x3 r h
    simp only [LX6_fullestIdleColumn] at h
    refine am_E.go (n := 1) rfl ?_
    refine am_E.brk rfl (fun hp => ?_) (fun hp => ?_)
    · have h := (if_pos hp).symm.trans h
      refine am_E.go (n := 0) rfl ?_
      cases h
      exact am_E.ret rfl ⟨rfl, rfl⟩
    · have h := (if_neg hp).symm.trans h
      refine am_E.go (n := 2) rfl ?_
      obtain ⟨hg, h⟩ := am_ifI h
      refine am_E.grd rfl hg ?_
      refine am_E.go (n := 0) rfl ?_
      refine am_E.brk rfl (fun hp => ?_) (fun hp => ?_)
      · have h := (if_pos hp).symm.trans h
        refine am_E.go (n := 1) rfl ?_
        exact ih h
      · have h := (if_neg hp).symm.trans h
        refine am_E.go (n := 2) rfl ?_
        obtain ⟨hg, h⟩ := am_ifI h
        refine am_E.grd rfl hg ?_
        refine am_E.go (n := 0) rfl ?_
        refine am_E.brk rfl (fun hp => ?_) (fun hp => ?_)
        · have h := (if_pos hp).symm.trans h
          refine am_E.go (n := 1) rfl ?_
          exact ih h
        · have h := (if_neg hp).symm.trans h
          refine am_E.go (n := 2) rfl ?_
          obtain ⟨hg, h⟩ := am_ifI h
          refine am_E.grd rfl hg ?_
          refine am_E.go (n := 4) rfl ?_
          exact ih h
set_option maxHeartbeats 4000000 in
set_option maxRecDepth 100000 in
theorem axX6_fullestIdleColumn {I : Nat → Nat → Int32} {J : Nat → Nat → Int64} {r : Int32} (h : DX6_fullestIdleColumn I = some r) : am_F 0 nX6_fullestIdleColumn [.ref 34, .retAddr 0, .retAddr 0, .retAddr 0] (TX, I, J, RX) (some (.int r)) (TX, I, J, RX) := by
  unfold DX6_fullestIdleColumn at h
  unfold am_F
  refine am_E.go (n := 5) rfl ?_
  exact (alX6_fullestIdleColumn am_FU) h
def LX6_takeNextOf : Nat → (Nat → Nat → Int32) → (Nat → Nat → Int64) → Nat → Int32 → Int32 → Int32 → Option (Int32 × (Nat → Nat → Int32) × (Nat → Nat → Int64))
  | 0, _, _, _, _, _, _ => none
  | n + 1, I, J, g0, x2, x3, x4 =>
    if x4 ≤ 0 then
      (DX6_minutesFor I g0 (((x4 * (4 : Int32)) + x2))).bind fun q6 =>
      if ¬ (x2 < 0 ∨ 4 ≤ (x2).toNatClampNeg) then
        if ¬ (x2 < 0 ∨ 4 ≤ (x2).toNatClampNeg) then
          if ¬ (x2 < 0 ∨ 4 ≤ (x2).toNatClampNeg) then
            (some (am_upI ((am_upI I 35 (x2).toNatClampNeg (x4 - (1 : Int32)))) 36 (x2).toNatClampNeg ((((am_upI I 35 (x2).toNatClampNeg (x4 - (1 : Int32)))) 36 (x2).toNatClampNeg) - q6))).bind fun I7 =>
            if ¬ (x2 < 0 ∨ 4 ≤ (x2).toNatClampNeg) then
              some ((0 : Int32), (am_upI I7 37 (x2).toNatClampNeg (x3 + q6)), J)
            else none
          else none
        else none
      else none
    else
      (DX1_isPlannedBare I g0 (((x4 * (4 : Int32)) + x2))).bind fun q8 =>
      if ¬ q8 = 0 then
        (DX6_minutesFor I g0 (((x4 * (4 : Int32)) + x2))).bind fun q9 =>
        if ¬ (x2 < 0 ∨ 4 ≤ (x2).toNatClampNeg) then
          if ¬ (x2 < 0 ∨ 4 ≤ (x2).toNatClampNeg) then
            if ¬ (x2 < 0 ∨ 4 ≤ (x2).toNatClampNeg) then
              (some (am_upI ((am_upI I 35 (x2).toNatClampNeg (x4 - (1 : Int32)))) 36 (x2).toNatClampNeg ((((am_upI I 35 (x2).toNatClampNeg (x4 - (1 : Int32)))) 36 (x2).toNatClampNeg) - q9))).bind fun I10 =>
              if ¬ (x2 < 0 ∨ 4 ≤ (x2).toNatClampNeg) then
                some ((0 : Int32), (am_upI I10 37 (x2).toNatClampNeg (x3 + q9)), J)
              else none
            else none
          else none
        else none
      else
        LX6_takeNextOf n I J g0 x2 x3 ((x4 + (-1 : Int32)))
def DX6_takeNextOf (I : Nat → Nat → Int32) (J : Nat → Nat → Int64) (g0 : Nat) (a1 : Int32) (a2 : Int32) : Option (Int32 × (Nat → Nat → Int32) × (Nat → Nat → Int64)) :=
  if a1 < 0 then
    some ((0 : Int32), I, J)
  else
    if a1 < (4 : Int32) then
      if ¬ (a1 < 0 ∨ 4 ≤ (a1).toNatClampNeg) then
        LX6_takeNextOf am_FU I J g0 a1 a2 ((I 35 (a1).toNatClampNeg))
      else none
    else
      some ((0 : Int32), I, J)
set_option maxHeartbeats 4000000 in
set_option maxRecDepth 100000 in
theorem alX6_takeNextOf : ∀ (n : Nat), ∀ {I : Nat → Nat → Int32} {J : Nat → Nat → Int64} {g0 : Nat} {x2 : Int32} {x3 : Int32} {x4 : Int32} {I' : Nat → Nat → Int32} {J' : Nat → Nat → Int64} {r : Int32}, dm_b g0 → LX6_takeNextOf n I J g0 x2 x3 x4 = some (r, I', J') → am_E 3 nX6_takeNextOf (18, [.ref 34, .ref g0, .int x2, .int x3, .int x4, .retAddr 0], [], (TX, I, J, RX)) (fun v M' => v = none ∧ M' = (TX, I', J', RX)) := by
  intro n
  induction n with
  | zero => intros; contradiction
  | succ n ih =>
    intro I J g0 x2 x3 x4 I' J' r hg0 h
    simp only [LX6_takeNextOf] at h
    unfold dm_b at hg0
    rcases hg0 with rfl | rfl | rfl
    all_goals
      refine am_E.go (n := 0) rfl ?_
      refine am_E.brk rfl (fun hp => ?_) (fun hp => ?_)
      · have h := (if_pos hp).symm.trans h
        refine am_E.go (n := 5) rfl ?_
        obtain ⟨q6, hq, h⟩ := am_bindI h
        refine am_E.callF rfl (by decide) (axX6_minutesFor (by decide) hq) ?_
        refine am_E.go (n := 6) rfl ?_
        obtain ⟨hg, h⟩ := am_ifI h
        refine am_E.grd rfl hg ?_
        refine am_E.go (n := 3) rfl ?_
        obtain ⟨hg, h⟩ := am_ifI h
        refine am_E.grd rfl hg ?_
        refine am_E.go (n := 1) rfl ?_
        obtain ⟨hg, h⟩ := am_ifI h
        refine am_E.grd rfl hg ?_
        obtain ⟨I7, hI, h⟩ := am_bindI h
        obtain rfl := Option.some.inj hI
        refine am_E.go (n := 5) rfl ?_
        obtain ⟨hg, h⟩ := am_ifI h
        refine am_E.grd rfl hg ?_
        cases h
        exact am_E.ret rfl ⟨rfl, rfl⟩
      · have h := (if_neg hp).symm.trans h
        refine am_E.go (n := 5) rfl ?_
        obtain ⟨q8, hq, h⟩ := am_bindI h
        refine am_E.callF rfl (by decide) (axX1_isPlannedBare (by decide) hq) ?_
        refine am_E.brk rfl (fun hp => ?_) (fun hp => ?_)
        · have h := (if_pos hp).symm.trans h
          refine am_E.go (n := 5) rfl ?_
          obtain ⟨q9, hq, h⟩ := am_bindI h
          refine am_E.callF rfl (by decide) (axX6_minutesFor (by decide) hq) ?_
          refine am_E.go (n := 6) rfl ?_
          obtain ⟨hg, h⟩ := am_ifI h
          refine am_E.grd rfl hg ?_
          refine am_E.go (n := 3) rfl ?_
          obtain ⟨hg, h⟩ := am_ifI h
          refine am_E.grd rfl hg ?_
          refine am_E.go (n := 1) rfl ?_
          obtain ⟨hg, h⟩ := am_ifI h
          refine am_E.grd rfl hg ?_
          obtain ⟨I10, hI, h⟩ := am_bindI h
          obtain rfl := Option.some.inj hI
          refine am_E.go (n := 5) rfl ?_
          obtain ⟨hg, h⟩ := am_ifI h
          refine am_E.grd rfl hg ?_
          cases h
          exact am_E.ret rfl ⟨rfl, rfl⟩
        · have h := (if_neg hp).symm.trans h
          refine am_E.go (n := 1) rfl ?_
          exact ih (by decide) h
set_option maxHeartbeats 4000000 in
set_option maxRecDepth 100000 in
theorem axX6_takeNextOf {I : Nat → Nat → Int32} {J : Nat → Nat → Int64} {g0 : Nat} {a1 : Int32} {a2 : Int32} {r : Int32} {I' : Nat → Nat → Int32} {J' : Nat → Nat → Int64} (hg0 : dm_b g0) (h : DX6_takeNextOf I J g0 a1 a2 = some (r, I', J')) : am_F 3 nX6_takeNextOf [.ref 34, .ref g0, .int a1, .int a2, .retAddr 0, .retAddr 0] (TX, I, J, RX) (none) (TX, I', J', RX) := by
  unfold DX6_takeNextOf at h
  unfold am_F
  unfold dm_b at hg0
  rcases hg0 with rfl | rfl | rfl
  all_goals
    refine am_E.go (n := 0) rfl ?_
    refine am_E.brk rfl (fun hp => ?_) (fun hp => ?_)
    · have h := (if_pos hp).symm.trans h
      cases h
      exact am_E.ret rfl ⟨rfl, rfl⟩
    · have h := (if_neg hp).symm.trans h
      refine am_E.go (n := 1) rfl ?_
      refine am_E.brk rfl (fun hp => ?_) (fun hp => ?_)
      · have h := (if_pos hp).symm.trans h
        refine am_E.go (n := 2) rfl ?_
        obtain ⟨hg, h⟩ := am_ifI h
        refine am_E.grd rfl hg ?_
        refine am_E.go (n := 0) rfl ?_
        exact (alX6_takeNextOf am_FU) (by decide) h
      · have h := (if_neg hp).symm.trans h
        cases h
        exact am_E.ret rfl ⟨rfl, rfl⟩
def LX6_takeCells : Nat → (Nat → Nat → Int32) → (Nat → Nat → Int64) → Nat → Int32 → Int32 → Int32 → Option (Int32 × (Nat → Nat → Int32) × (Nat → Nat → Int64))
  | 0, _, _, _, _, _, _ => none
  | n + 1, I, J, g0, x2, x3, x4 =>
    if x3 ≤ x4 then
      some (x4, I, J)
    else
      (DX6_fullestIdleColumn I).bind fun q3 =>
      if ¬ q3 = (-1 : Int32) then
        (DX6_takeNextOf I J g0 q3 x2).bind fun q4 =>
        LX6_takeCells n q4.2.1 q4.2.2 g0 x2 x3 ((x4 + (1 : Int32)))
      else
        some (x4, I, J)
def DX6_takeCells (I : Nat → Nat → Int32) (J : Nat → Nat → Int64) (g0 : Nat) (a1 : Int32) (a2 : Int32) : Option (Int32 × (Nat → Nat → Int32) × (Nat → Nat → Int64)) :=
  LX6_takeCells am_FU I J g0 a1 a2 ((0 : Int32))
set_option maxHeartbeats 4000000 in
set_option maxRecDepth 100000 in
theorem alX6_takeCells : ∀ (n : Nat), ∀ {I : Nat → Nat → Int32} {J : Nat → Nat → Int64} {g0 : Nat} {x2 : Int32} {x3 : Int32} {x4 : Int32} {I' : Nat → Nat → Int32} {J' : Nat → Nat → Int64} {r : Int32}, dm_b g0 → LX6_takeCells n I J g0 x2 x3 x4 = some (r, I', J') → am_E 4 nX6_takeCells (3, [.ref 34, .ref g0, .int x2, .int x3, .int x4, .retAddr 0], [], (TX, I, J, RX)) (fun v M' => v = some (.int r) ∧ M' = (TX, I', J', RX)) := by
  intro n
  induction n with
  | zero => intros; contradiction
  | succ n ih =>
    intro I J g0 x2 x3 x4 I' J' r hg0 h
    simp only [LX6_takeCells] at h
    unfold dm_b at hg0
    rcases hg0 with rfl | rfl | rfl
    all_goals
      refine am_E.go (n := 1) rfl ?_
      refine am_E.brk rfl (fun hp => ?_) (fun hp => ?_)
      · have h := (if_pos hp).symm.trans h
        refine am_E.go (n := 0) rfl ?_
        cases h
        exact am_E.ret rfl ⟨rfl, rfl⟩
      · have h := (if_neg hp).symm.trans h
        refine am_E.go (n := 0) rfl ?_
        obtain ⟨q3, hq, h⟩ := am_bindI h
        refine am_E.callF rfl (by decide) (axX6_fullestIdleColumn hq) ?_
        refine am_E.go (n := 2) rfl ?_
        refine am_E.brk rfl (fun hp => ?_) (fun hp => ?_)
        · have h := (if_pos hp).symm.trans h
          refine am_E.go (n := 3) rfl ?_
          obtain ⟨q4, hq, h⟩ := am_bindI h
          obtain ⟨q4_1, q4_2, q4_3⟩ := q4
          refine am_E.callF rfl (by decide) (axX6_takeNextOf (by decide) hq) ?_
          refine am_E.go (n := 1) rfl ?_
          refine am_E.less (ls0 := [_, _, _, _, _, .retAddr 0]) ?_ ⟨Or.inl rfl, Or.inl rfl, Or.inl rfl, Or.inl rfl, Or.inl rfl, Or.inr ⟨rfl, rfl⟩, trivial⟩
          exact ih (by decide) h
        · have h := (if_neg hp).symm.trans h
          refine am_E.go (n := 0) rfl ?_
          cases h
          exact am_E.ret rfl ⟨rfl, rfl⟩
set_option maxHeartbeats 4000000 in
set_option maxRecDepth 100000 in
theorem axX6_takeCells {I : Nat → Nat → Int32} {J : Nat → Nat → Int64} {g0 : Nat} {a1 : Int32} {a2 : Int32} {r : Int32} {I' : Nat → Nat → Int32} {J' : Nat → Nat → Int64} (hg0 : dm_b g0) (h : DX6_takeCells I J g0 a1 a2 = some (r, I', J')) : am_F 4 nX6_takeCells [.ref 34, .ref g0, .int a1, .int a2, .retAddr 0, .retAddr 0] (TX, I, J, RX) (some (.int r)) (TX, I', J', RX) := by
  unfold DX6_takeCells at h
  unfold am_F
  unfold dm_b at hg0
  rcases hg0 with rfl | rfl | rfl
  all_goals
    refine am_E.go (n := 1) rfl ?_
    exact (alX6_takeCells am_FU) (by decide) h
def LX6_lastMinute : Nat → (Nat → Nat → Int32) → (Nat → Nat → Int64) → Nat → Int32 → Int32 → Int32 → Option (Int32 × (Nat → Nat → Int32) × (Nat → Nat → Int64))
  | 0, _, _, _, _, _, _ => none
  | n + 1, I, J, g0, x2, x3, x4 =>
    if (240 : Int32) < x4 then
      some ((240 : Int32), I, J)
    else
      (DX6_finish I J x4).bind fun q4 =>
      (DX6_takeCells q4.2.1 q4.2.2 g0 x4 ((x3 + q4.1))).bind fun q5 =>
      if ((x3 + q4.1) - q5.1) < x2 then
        LX6_lastMinute n q5.2.1 q5.2.2 g0 x2 (((x3 + q4.1) - q5.1)) ((x4 + (1 : Int32)))
      else
        some (x4, q5.2.1, q5.2.2)
def DX6_lastMinute (I : Nat → Nat → Int32) (J : Nat → Nat → Int64) (g0 : Nat) (a1 : Int32) : Option (Int32 × (Nat → Nat → Int32) × (Nat → Nat → Int64)) :=
  (DX6_begin I J g0).bind fun q1 =>
  LX6_lastMinute am_FU q1.2.1 q1.2.2 g0 a1 a1 ((0 : Int32))
set_option maxHeartbeats 4000000 in
set_option maxRecDepth 100000 in
theorem alX6_lastMinute : ∀ (n : Nat), ∀ {I : Nat → Nat → Int32} {J : Nat → Nat → Int64} {g0 : Nat} {x2 : Int32} {x3 : Int32} {x4 : Int32} {I' : Nat → Nat → Int32} {J' : Nat → Nat → Int64} {r : Int32}, dm_b g0 → LX6_lastMinute n I J g0 x2 x3 x4 = some (r, I', J') → am_E 5 nX6_lastMinute (10, [.ref 34, .ref g0, .int x2, .int x3, .int x4], [], (TX, I, J, RX)) (fun v M' => v = some (.int r) ∧ M' = (TX, I', J', RX)) := by
  intro n
  induction n with
  | zero => intros; contradiction
  | succ n ih =>
    intro I J g0 x2 x3 x4 I' J' r hg0 h
    simp only [LX6_lastMinute] at h
    unfold dm_b at hg0
    rcases hg0 with rfl | rfl | rfl
    all_goals
      refine am_E.go (n := 1) rfl ?_
      refine am_E.brk rfl (fun hp => ?_) (fun hp => ?_)
      · have h := (if_pos hp).symm.trans h
        refine am_E.go (n := 0) rfl ?_
        cases h
        exact am_E.ret rfl ⟨rfl, rfl⟩
      · have h := (if_neg hp).symm.trans h
        refine am_E.go (n := 2) rfl ?_
        obtain ⟨q4, hq, h⟩ := am_bindI h
        obtain ⟨q4_1, q4_2, q4_3⟩ := q4
        refine am_E.callF rfl (by decide) (axX6_finish hq) ?_
        refine am_E.go (n := 6) rfl ?_
        obtain ⟨q5, hq, h⟩ := am_bindI h
        obtain ⟨q5_1, q5_2, q5_3⟩ := q5
        refine am_E.callF rfl (by decide) (axX6_takeCells (by decide) hq) ?_
        refine am_E.go (n := 3) rfl ?_
        refine am_E.brk rfl (fun hp => ?_) (fun hp => ?_)
        · have h := (if_pos hp).symm.trans h
          refine am_E.go (n := 1) rfl ?_
          exact ih (by decide) h
        · have h := (if_neg hp).symm.trans h
          refine am_E.go (n := 0) rfl ?_
          cases h
          exact am_E.ret rfl ⟨rfl, rfl⟩
set_option maxHeartbeats 4000000 in
set_option maxRecDepth 100000 in
theorem axX6_lastMinute {I : Nat → Nat → Int32} {J : Nat → Nat → Int64} {g0 : Nat} {a1 : Int32} {r : Int32} {I' : Nat → Nat → Int32} {J' : Nat → Nat → Int64} (hg0 : dm_b g0) (h : DX6_lastMinute I J g0 a1 = some (r, I', J')) : am_F 5 nX6_lastMinute [.ref 34, .ref g0, .int a1, .retAddr 0, .retAddr 0] (TX, I, J, RX) (some (.int r)) (TX, I', J', RX) := by
  unfold DX6_lastMinute at h
  unfold am_F
  unfold dm_b at hg0
  rcases hg0 with rfl | rfl | rfl
  all_goals
    refine am_E.go (n := 1) rfl ?_
    obtain ⟨q1, hq, h⟩ := am_bindI h
    obtain ⟨q1_1, q1_2, q1_3⟩ := q1
    refine am_E.callF rfl (by decide) (axX6_begin (by decide) hq) ?_
    refine am_E.go (n := 3) rfl ?_
    exact (alX6_lastMinute am_FU) (by decide) h
def DX7_refuse (I : Nat → Nat → Int32) (J : Nat → Nat → Int64) (a0 : Int32) : Option (Int32 × (Nat → Nat → Int32) × (Nat → Nat → Int64)) :=
  if (-10 : Int32) ≤ a0 then
    if ((-1 : Int32) - a0) < 0 then
      some (a0, I, J)
    else
      if (7 : Int32) ≤ ((-1 : Int32) - a0) then
        some (a0, I, J)
      else
        if ¬ (((-1 : Int32) - a0) < 0 ∨ 7 ≤ (((-1 : Int32) - a0)).toNatClampNeg) then
          if ¬ (((-1 : Int32) - a0) < 0 ∨ 7 ≤ (((-1 : Int32) - a0)).toNatClampNeg) then
            (some (am_upI I 40 (((-1 : Int32) - a0)).toNatClampNeg ((I 40 (((-1 : Int32) - a0)).toNatClampNeg) + (1 : Int32)))).bind fun I1 =>
            some (a0, I1, J)
          else none
        else none
  else
    if ((-1 : Int32) - (a0 - (-10 : Int32))) < 0 then
      some (a0, I, J)
    else
      if (7 : Int32) ≤ ((-1 : Int32) - (a0 - (-10 : Int32))) then
        some (a0, I, J)
      else
        if ¬ (((-1 : Int32) - (a0 - (-10 : Int32))) < 0 ∨ 7 ≤ (((-1 : Int32) - (a0 - (-10 : Int32)))).toNatClampNeg) then
          if ¬ (((-1 : Int32) - (a0 - (-10 : Int32))) < 0 ∨ 7 ≤ (((-1 : Int32) - (a0 - (-10 : Int32)))).toNatClampNeg) then
            (some (am_upI I 40 (((-1 : Int32) - (a0 - (-10 : Int32)))).toNatClampNeg ((I 40 (((-1 : Int32) - (a0 - (-10 : Int32)))).toNatClampNeg) + (1 : Int32)))).bind fun I2 =>
            some (a0, I2, J)
          else none
        else none
set_option maxHeartbeats 4000000 in
set_option maxRecDepth 100000 in
theorem axX7_refuse {I : Nat → Nat → Int32} {J : Nat → Nat → Int64} {a0 : Int32} {r : Int32} {I' : Nat → Nat → Int32} {J' : Nat → Nat → Int64} (h : DX7_refuse I J a0 = some (r, I', J')) : am_F 0 nX7_refuse [.ref 0, .int a0, .retAddr 0, .retAddr 0] (TX, I, J, RX) (some (.int r)) (TX, I', J', RX) := by
  unfold DX7_refuse at h
  unfold am_F
  refine am_E.go (n := 1) rfl ?_
  refine am_E.brk rfl (fun hp => ?_) (fun hp => ?_)
  · have h := (if_pos hp).symm.trans h
    refine am_E.go (n := 6) rfl ?_
    obtain ⟨w, hw⟩ : ∃ w, w = ((-1 : Int32) - a0) := ⟨_, rfl⟩
    try with_reducible rw [← hw] at h
    try with_reducible rw [← hw]
    clear hw
    refine am_E.brk rfl (fun hp => ?_) (fun hp => ?_)
    · have h := (if_pos hp).symm.trans h
      refine am_E.go (n := 0) rfl ?_
      cases h
      exact am_E.ret rfl ⟨rfl, rfl⟩
    · have h := (if_neg hp).symm.trans h
      refine am_E.go (n := 3) rfl ?_
      obtain ⟨w, hw⟩ : ∃ w, w = ((-1 : Int32) - a0) := ⟨_, rfl⟩
      try with_reducible rw [← hw] at h
      try with_reducible rw [← hw]
      clear hw
      refine am_E.brk rfl (fun hp => ?_) (fun hp => ?_)
      · have h := (if_pos hp).symm.trans h
        refine am_E.go (n := 0) rfl ?_
        cases h
        exact am_E.ret rfl ⟨rfl, rfl⟩
      · have h := (if_neg hp).symm.trans h
        refine am_E.go (n := 3) rfl ?_
        obtain ⟨hg, h⟩ := am_ifI h
        refine am_E.grd rfl hg ?_
        refine am_E.go (n := 1) rfl ?_
        obtain ⟨hg, h⟩ := am_ifI h
        refine am_E.grd rfl hg ?_
        obtain ⟨I1, hI, h⟩ := am_bindI h
        obtain rfl := Option.some.inj hI
        refine am_E.go (n := 0) rfl ?_
        cases h
        exact am_E.ret rfl ⟨rfl, rfl⟩
  · have h := (if_neg hp).symm.trans h
    refine am_E.go (n := 9) rfl ?_
    obtain ⟨w, hw⟩ : ∃ w, w = ((-1 : Int32) - (a0 - (-10 : Int32))) := ⟨_, rfl⟩
    try with_reducible rw [← hw] at h
    try with_reducible rw [← hw]
    clear hw
    refine am_E.brk rfl (fun hp => ?_) (fun hp => ?_)
    · have h := (if_pos hp).symm.trans h
      refine am_E.go (n := 0) rfl ?_
      cases h
      exact am_E.ret rfl ⟨rfl, rfl⟩
    · have h := (if_neg hp).symm.trans h
      refine am_E.go (n := 3) rfl ?_
      obtain ⟨w, hw⟩ : ∃ w, w = ((-1 : Int32) - (a0 - (-10 : Int32))) := ⟨_, rfl⟩
      try with_reducible rw [← hw] at h
      try with_reducible rw [← hw]
      clear hw
      refine am_E.brk rfl (fun hp => ?_) (fun hp => ?_)
      · have h := (if_pos hp).symm.trans h
        refine am_E.go (n := 0) rfl ?_
        cases h
        exact am_E.ret rfl ⟨rfl, rfl⟩
      · have h := (if_neg hp).symm.trans h
        refine am_E.go (n := 3) rfl ?_
        obtain ⟨hg, h⟩ := am_ifI h
        refine am_E.grd rfl hg ?_
        refine am_E.go (n := 1) rfl ?_
        obtain ⟨hg, h⟩ := am_ifI h
        refine am_E.grd rfl hg ?_
        obtain ⟨I2, hI, h⟩ := am_bindI h
        obtain rfl := Option.some.inj hI
        refine am_E.go (n := 0) rfl ?_
        cases h
        exact am_E.ret rfl ⟨rfl, rfl⟩
def DX7_row (I : Nat → Nat → Int32) (J : Nat → Nat → Int64) (a0 : Int32) (a1 : Int32) (a2 : Int32) : Option (Int32 × (Nat → Nat → Int32) × (Nat → Nat → Int64)) :=
  if (DX7_shelfAt a0) = 0 then
    (DX7_refuse I J ((-1 : Int32))).bind fun q1 =>
    some (q1.1, q1.2.1, q1.2.2)
  else
    if 0 ≤ a2 then
      if a1 < 0 then
        (DX7_refuse I J ((-6 : Int32))).bind fun q2 =>
        some (q2.1, q2.2.1, q2.2.2)
      else
        if a1 < (4 : Int32) then
          if a2 ≤ (160 : Int32) then
            (DX3_takeRow I J ((DX7_shelfAt a0)) a1 a2).bind fun q3 =>
            some ((1 : Int32), q3.2.1, q3.2.2)
          else
            (DX7_refuse I J ((-7 : Int32))).bind fun q4 =>
            some (q4.1, q4.2.1, q4.2.2)
        else
          (DX7_refuse I J ((-6 : Int32))).bind fun q5 =>
          some (q5.1, q5.2.1, q5.2.2)
    else
      (DX7_refuse I J ((-4 : Int32))).bind fun q6 =>
      some (q6.1, q6.2.1, q6.2.2)
set_option maxHeartbeats 4000000 in
set_option maxRecDepth 100000 in
theorem axX7_row {I : Nat → Nat → Int32} {J : Nat → Nat → Int64} {a0 : Int32} {a1 : Int32} {a2 : Int32} {r : Int32} {I' : Nat → Nat → Int32} {J' : Nat → Nat → Int64} (h : DX7_row I J a0 a1 a2 = some (r, I', J')) : am_F 2 nX7_row [.ref 0, .int a0, .int a1, .int a2, .retAddr 0] (TX, I, J, RX) (some (.int r)) (TX, I', J', RX) := by
  unfold DX7_row at h
  unfold am_F
  refine am_E.go (n := 1) rfl ?_
  refine am_E.callF rfl (by decide) (axX7_shelfAt _ _ _) ?_
  by_cases hp : (DX7_shelfAt a0) = 0
  · have h := (if_pos hp).symm.trans h
    rw [am_rv0 hp]
    refine am_E.go (n := 1) rfl ?_
    refine am_E.step rfl ?_
    refine am_E.go (n := 1) rfl ?_
    obtain ⟨q1, hq, h⟩ := am_bindI h
    obtain ⟨q1_1, q1_2, q1_3⟩ := q1
    refine am_E.callF rfl (by decide) (axX7_refuse hq) ?_
    cases h
    exact am_E.ret rfl ⟨rfl, rfl⟩
  · have h := (if_neg hp).symm.trans h
    rw [am_rv1 hp]
    have hsh0 := axX7_shelfId hp
    refine am_E.go (n := 1) rfl ?_
    refine am_E.grd rfl (am_lt9 (am_shLt hsh0)) ?_
    refine am_E.go (n := 0) rfl ?_
    refine am_E.brk rfl (fun hp => ?_) (fun hp => ?_)
    · have h := (if_pos hp).symm.trans h
      refine am_E.go (n := 0) rfl ?_
      refine am_E.brk rfl (fun hp => ?_) (fun hp => ?_)
      · have h := (if_pos hp).symm.trans h
        refine am_E.go (n := 1) rfl ?_
        obtain ⟨q2, hq, h⟩ := am_bindI h
        obtain ⟨q2_1, q2_2, q2_3⟩ := q2
        refine am_E.callF rfl (by decide) (axX7_refuse hq) ?_
        cases h
        exact am_E.ret rfl ⟨rfl, rfl⟩
      · have h := (if_neg hp).symm.trans h
        refine am_E.go (n := 1) rfl ?_
        refine am_E.brk rfl (fun hp => ?_) (fun hp => ?_)
        · have h := (if_pos hp).symm.trans h
          refine am_E.go (n := 1) rfl ?_
          refine am_E.brk rfl (fun hp => ?_) (fun hp => ?_)
          · have h := (if_pos hp).symm.trans h
            refine am_E.go (n := 2) rfl ?_
            obtain ⟨q3, hq, h⟩ := am_bindI h
            obtain ⟨q3_1, q3_2, q3_3⟩ := q3
            refine am_E.callGF rfl (am_shTag hsh0) (by decide) (axX3_takeRow hsh0 hq) ?_
            refine am_E.go (n := 0) rfl ?_
            cases h
            exact am_E.ret rfl ⟨rfl, rfl⟩
          · have h := (if_neg hp).symm.trans h
            refine am_E.go (n := 1) rfl ?_
            obtain ⟨q4, hq, h⟩ := am_bindI h
            obtain ⟨q4_1, q4_2, q4_3⟩ := q4
            refine am_E.callF rfl (by decide) (axX7_refuse hq) ?_
            cases h
            exact am_E.ret rfl ⟨rfl, rfl⟩
        · have h := (if_neg hp).symm.trans h
          refine am_E.go (n := 1) rfl ?_
          obtain ⟨q5, hq, h⟩ := am_bindI h
          obtain ⟨q5_1, q5_2, q5_3⟩ := q5
          refine am_E.callF rfl (by decide) (axX7_refuse hq) ?_
          cases h
          exact am_E.ret rfl ⟨rfl, rfl⟩
    · have h := (if_neg hp).symm.trans h
      refine am_E.go (n := 1) rfl ?_
      obtain ⟨q6, hq, h⟩ := am_bindI h
      obtain ⟨q6_1, q6_2, q6_3⟩ := q6
      refine am_E.callF rfl (by decide) (axX7_refuse hq) ?_
      cases h
      exact am_E.ret rfl ⟨rfl, rfl⟩
def DX7_set (I : Nat → Nat → Int32) (J : Nat → Nat → Int64) (a0 : Int32) (a1 : Int32) (a2 : Int64) : Option (Int32 × (Nat → Nat → Int32) × (Nat → Nat → Int64)) :=
  if (DX7_shelfAt a0) = 0 then
    (DX7_refuse I J ((-1 : Int32))).bind fun q1 =>
    some (q1.1, q1.2.1, q1.2.2)
  else
    if (DX3_rowTrouble I ((DX7_shelfAt a0))) = 0 then
      if ¬ (DX3_hasElement I ((DX7_shelfAt a0)) a1) = 0 then
        (DX3_put I J ((DX7_shelfAt a0)) a1 a2).bind fun q2 =>
        some ((1 : Int32), q2.2.1, q2.2.2)
      else
        (DX7_refuse I J ((-5 : Int32))).bind fun q3 =>
        some (q3.1, q3.2.1, q3.2.2)
    else
      (DX7_refuse I J ((DX3_rowTrouble I ((DX7_shelfAt a0))))).bind fun q4 =>
      some (q4.1, q4.2.1, q4.2.2)
set_option maxHeartbeats 4000000 in
set_option maxRecDepth 100000 in
theorem axX7_set {I : Nat → Nat → Int32} {J : Nat → Nat → Int64} {a0 : Int32} {a1 : Int32} {a2 : Int64} {r : Int32} {I' : Nat → Nat → Int32} {J' : Nat → Nat → Int64} (h : DX7_set I J a0 a1 a2 = some (r, I', J')) : am_F 2 nX7_set [.ref 0, .int a0, .int a1, .long a2, .retAddr 0, .retAddr 0, .retAddr 0] (TX, I, J, RX) (some (.int r)) (TX, I', J', RX) := by
  unfold DX7_set at h
  unfold am_F
  refine am_E.go (n := 1) rfl ?_
  refine am_E.callF rfl (by decide) (axX7_shelfAt _ _ _) ?_
  by_cases hp : (DX7_shelfAt a0) = 0
  · have h := (if_pos hp).symm.trans h
    rw [am_rv0 hp]
    refine am_E.go (n := 1) rfl ?_
    refine am_E.step rfl ?_
    refine am_E.go (n := 1) rfl ?_
    obtain ⟨q1, hq, h⟩ := am_bindI h
    obtain ⟨q1_1, q1_2, q1_3⟩ := q1
    refine am_E.callF rfl (by decide) (axX7_refuse hq) ?_
    cases h
    exact am_E.ret rfl ⟨rfl, rfl⟩
  · have h := (if_neg hp).symm.trans h
    rw [am_rv1 hp]
    have hsh0 := axX7_shelfId hp
    refine am_E.go (n := 1) rfl ?_
    refine am_E.grd rfl (am_lt9 (am_shLt hsh0)) ?_
    refine am_E.go (n := 0) rfl ?_
    refine am_E.callGF rfl (am_shTag hsh0) (by decide) (axX3_rowTrouble hsh0 rfl) ?_
    refine am_E.go (n := 1) rfl ?_
    refine am_E.brk rfl (fun hp => ?_) (fun hp => ?_)
    · have h := (if_pos hp).symm.trans h
      refine am_E.go (n := 1) rfl ?_
      refine am_E.callGF rfl (am_shTag hsh0) (by decide) (axX3_hasElement hsh0 rfl) ?_
      refine am_E.brk rfl (fun hp => ?_) (fun hp => ?_)
      · have h := (if_pos hp).symm.trans h
        refine am_E.go (n := 2) rfl ?_
        obtain ⟨q2, hq, h⟩ := am_bindI h
        obtain ⟨q2_1, q2_2, q2_3⟩ := q2
        refine am_E.callGF rfl (am_shTag hsh0) (by decide) (axX3_put hsh0 hq) ?_
        refine am_E.go (n := 0) rfl ?_
        cases h
        exact am_E.ret rfl ⟨rfl, rfl⟩
      · have h := (if_neg hp).symm.trans h
        refine am_E.go (n := 1) rfl ?_
        obtain ⟨q3, hq, h⟩ := am_bindI h
        obtain ⟨q3_1, q3_2, q3_3⟩ := q3
        refine am_E.callF rfl (by decide) (axX7_refuse hq) ?_
        cases h
        exact am_E.ret rfl ⟨rfl, rfl⟩
    · have h := (if_neg hp).symm.trans h
      refine am_E.go (n := 1) rfl ?_
      obtain ⟨q4, hq, h⟩ := am_bindI h
      obtain ⟨q4_1, q4_2, q4_3⟩ := q4
      refine am_E.callF rfl (by decide) (axX7_refuse hq) ?_
      cases h
      exact am_E.ret rfl ⟨rfl, rfl⟩
def DX7_copy (I : Nat → Nat → Int32) (J : Nat → Nat → Int64) (a0 : Int32) (a1 : Int32) (a2 : Int32) (a3 : Int32) (a4 : Int32) : Option (Int32 × (Nat → Nat → Int32) × (Nat → Nat → Int64)) :=
  if (DX7_shelfAt a0) = 0 then
    if (DX7_shelfAt a1) = 0 then
      (DX7_refuse I J ((-1 : Int32))).bind fun q1 =>
      some (q1.1, q1.2.1, q1.2.2)
    else
      (DX7_refuse I J ((-1 : Int32))).bind fun q2 =>
      some (q2.1, q2.2.1, q2.2.2)
  else
    if (DX7_shelfAt a1) = 0 then
      (DX7_refuse I J ((-1 : Int32))).bind fun q3 =>
      some (q3.1, q3.2.1, q3.2.2)
    else
      if ¬ (DX3_holdsStuff I ((DX7_shelfAt a0))) = 0 then
        (DX7_refuse I J ((-2 : Int32))).bind fun q4 =>
        some (q4.1, q4.2.1, q4.2.2)
      else
        if ¬ (DX3_holdsStuff I ((DX7_shelfAt a1))) = 0 then
          (DX7_refuse I J ((-2 : Int32))).bind fun q5 =>
          some (q5.1, q5.2.1, q5.2.2)
        else
          if (DX3_isOfOtherSort I ((DX7_shelfAt a0)) ((DX7_shelfAt a1))) = 0 then
            if (DX3_holdsRow I ((DX7_shelfAt a0))) = 0 then
              (DX7_refuse I J ((-3 : Int32))).bind fun q6 =>
              some (q6.1, q6.2.1, q6.2.2)
            else
              if ¬ (DX3_holdsRow I ((DX7_shelfAt a1))) = 0 then
                if 0 ≤ a4 then
                  if (DX3_hasElements I ((DX7_shelfAt a0)) a2 a4) = 0 then
                    (DX7_refuse I J ((-5 : Int32))).bind fun q7 =>
                    some (q7.1, q7.2.1, q7.2.2)
                  else
                    if ¬ (DX3_hasElements I ((DX7_shelfAt a1)) a3 a4) = 0 then
                      (DX3_copyTo I J ((DX7_shelfAt a0)) ((DX7_shelfAt a1)) a2 a3 a4).bind fun q8 =>
                      some ((1 : Int32), q8.2.1, q8.2.2)
                    else
                      (DX7_refuse I J ((-5 : Int32))).bind fun q9 =>
                      some (q9.1, q9.2.1, q9.2.2)
                else
                  (DX7_refuse I J ((-4 : Int32))).bind fun q10 =>
                  some (q10.1, q10.2.1, q10.2.2)
              else
                (DX7_refuse I J ((-3 : Int32))).bind fun q11 =>
                some (q11.1, q11.2.1, q11.2.2)
          else
            (DX7_refuse I J ((-2 : Int32))).bind fun q12 =>
            some (q12.1, q12.2.1, q12.2.2)
set_option maxHeartbeats 4000000 in
set_option maxRecDepth 100000 in
theorem axX7_copy {I : Nat → Nat → Int32} {J : Nat → Nat → Int64} {a0 : Int32} {a1 : Int32} {a2 : Int32} {a3 : Int32} {a4 : Int32} {r : Int32} {I' : Nat → Nat → Int32} {J' : Nat → Nat → Int64} (h : DX7_copy I J a0 a1 a2 a3 a4 = some (r, I', J')) : am_F 2 nX7_copy [.ref 0, .int a0, .int a1, .int a2, .int a3, .int a4, .retAddr 0, .retAddr 0] (TX, I, J, RX) (some (.int r)) (TX, I', J', RX) := by
  unfold DX7_copy at h
  unfold am_F
  refine am_E.go (n := 1) rfl ?_
  refine am_E.callF rfl (by decide) (axX7_shelfAt _ _ _) ?_
  by_cases hp : (DX7_shelfAt a0) = 0
  · have h := (if_pos hp).symm.trans h
    rw [am_rv0 hp]
    refine am_E.go (n := 2) rfl ?_
    refine am_E.callF rfl (by decide) (axX7_shelfAt _ _ _) ?_
    by_cases hp : (DX7_shelfAt a1) = 0
    · have h := (if_pos hp).symm.trans h
      rw [am_rv0 hp]
      refine am_E.go (n := 1) rfl ?_
      refine am_E.step rfl ?_
      refine am_E.go (n := 1) rfl ?_
      obtain ⟨q1, hq, h⟩ := am_bindI h
      obtain ⟨q1_1, q1_2, q1_3⟩ := q1
      refine am_E.callF rfl (by decide) (axX7_refuse hq) ?_
      cases h
      exact am_E.ret rfl ⟨rfl, rfl⟩
    · have h := (if_neg hp).symm.trans h
      rw [am_rv1 hp]
      have hsh0 := axX7_shelfId hp
      refine am_E.go (n := 1) rfl ?_
      refine am_E.step rfl ?_
      refine am_E.go (n := 1) rfl ?_
      obtain ⟨q2, hq, h⟩ := am_bindI h
      obtain ⟨q2_1, q2_2, q2_3⟩ := q2
      refine am_E.callF rfl (by decide) (axX7_refuse hq) ?_
      cases h
      exact am_E.ret rfl ⟨rfl, rfl⟩
  · have h := (if_neg hp).symm.trans h
    rw [am_rv1 hp]
    have hsh1 := axX7_shelfId hp
    refine am_E.go (n := 2) rfl ?_
    refine am_E.callF rfl (by decide) (axX7_shelfAt _ _ _) ?_
    by_cases hp : (DX7_shelfAt a1) = 0
    · have h := (if_pos hp).symm.trans h
      rw [am_rv0 hp]
      refine am_E.go (n := 1) rfl ?_
      refine am_E.grd rfl (am_lt9 (am_shLt hsh1)) ?_
      refine am_E.go (n := 0) rfl ?_
      refine am_E.step rfl ?_
      refine am_E.go (n := 1) rfl ?_
      obtain ⟨q3, hq, h⟩ := am_bindI h
      obtain ⟨q3_1, q3_2, q3_3⟩ := q3
      refine am_E.callF rfl (by decide) (axX7_refuse hq) ?_
      cases h
      exact am_E.ret rfl ⟨rfl, rfl⟩
    · have h := (if_neg hp).symm.trans h
      rw [am_rv1 hp]
      have hsh0 := axX7_shelfId hp
      refine am_E.go (n := 1) rfl ?_
      refine am_E.grd rfl (am_lt9 (am_shLt hsh1)) ?_
      refine am_E.go (n := 0) rfl ?_
      refine am_E.grd rfl (am_lt9 (am_shLt hsh0)) ?_
      refine am_E.go (n := 0) rfl ?_
      refine am_E.callGF rfl (am_shTag hsh1) (by decide) (axX3_holdsStuff hsh1 rfl) ?_
      refine am_E.brk rfl (fun hp => ?_) (fun hp => ?_)
      · have h := (if_pos hp).symm.trans h
        refine am_E.go (n := 1) rfl ?_
        obtain ⟨q4, hq, h⟩ := am_bindI h
        obtain ⟨q4_1, q4_2, q4_3⟩ := q4
        refine am_E.callF rfl (by decide) (axX7_refuse hq) ?_
        cases h
        exact am_E.ret rfl ⟨rfl, rfl⟩
      · have h := (if_neg hp).symm.trans h
        refine am_E.go (n := 0) rfl ?_
        refine am_E.callGF rfl (am_shTag hsh0) (by decide) (axX3_holdsStuff hsh0 rfl) ?_
        refine am_E.brk rfl (fun hp => ?_) (fun hp => ?_)
        · have h := (if_pos hp).symm.trans h
          refine am_E.go (n := 1) rfl ?_
          obtain ⟨q5, hq, h⟩ := am_bindI h
          obtain ⟨q5_1, q5_2, q5_3⟩ := q5
          refine am_E.callF rfl (by decide) (axX7_refuse hq) ?_
          cases h
          exact am_E.ret rfl ⟨rfl, rfl⟩
        · have h := (if_neg hp).symm.trans h
          refine am_E.go (n := 1) rfl ?_
          refine am_E.callGF rfl (am_shTag hsh1) (by decide) (axX3_isOfOtherSort hsh1 hsh0 rfl) ?_
          refine am_E.brk rfl (fun hp => ?_) (fun hp => ?_)
          · have h := (if_pos hp).symm.trans h
            refine am_E.go (n := 0) rfl ?_
            refine am_E.callGF rfl (am_shTag hsh1) (by decide) (axX3_holdsRow hsh1 rfl) ?_
            refine am_E.brk rfl (fun hp => ?_) (fun hp => ?_)
            · have h := (if_pos hp).symm.trans h
              refine am_E.go (n := 1) rfl ?_
              obtain ⟨q6, hq, h⟩ := am_bindI h
              obtain ⟨q6_1, q6_2, q6_3⟩ := q6
              refine am_E.callF rfl (by decide) (axX7_refuse hq) ?_
              cases h
              exact am_E.ret rfl ⟨rfl, rfl⟩
            · have h := (if_neg hp).symm.trans h
              refine am_E.go (n := 0) rfl ?_
              refine am_E.callGF rfl (am_shTag hsh0) (by decide) (axX3_holdsRow hsh0 rfl) ?_
              refine am_E.brk rfl (fun hp => ?_) (fun hp => ?_)
              · have h := (if_pos hp).symm.trans h
                refine am_E.go (n := 0) rfl ?_
                refine am_E.brk rfl (fun hp => ?_) (fun hp => ?_)
                · have h := (if_pos hp).symm.trans h
                  refine am_E.go (n := 2) rfl ?_
                  refine am_E.callGF rfl (am_shTag hsh1) (by decide) (axX3_hasElements hsh1 rfl) ?_
                  refine am_E.brk rfl (fun hp => ?_) (fun hp => ?_)
                  · have h := (if_pos hp).symm.trans h
                    refine am_E.go (n := 1) rfl ?_
                    obtain ⟨q7, hq, h⟩ := am_bindI h
                    obtain ⟨q7_1, q7_2, q7_3⟩ := q7
                    refine am_E.callF rfl (by decide) (axX7_refuse hq) ?_
                    cases h
                    exact am_E.ret rfl ⟨rfl, rfl⟩
                  · have h := (if_neg hp).symm.trans h
                    refine am_E.go (n := 2) rfl ?_
                    refine am_E.callGF rfl (am_shTag hsh0) (by decide) (axX3_hasElements hsh0 rfl) ?_
                    refine am_E.brk rfl (fun hp => ?_) (fun hp => ?_)
                    · have h := (if_pos hp).symm.trans h
                      refine am_E.go (n := 4) rfl ?_
                      obtain ⟨q8, hq, h⟩ := am_bindI h
                      obtain ⟨q8_1, q8_2, q8_3⟩ := q8
                      refine am_E.callGF rfl (am_shTag hsh1) (by decide) (axX3_copyTo hsh1 hsh0 hq) ?_
                      refine am_E.go (n := 0) rfl ?_
                      cases h
                      exact am_E.ret rfl ⟨rfl, rfl⟩
                    · have h := (if_neg hp).symm.trans h
                      refine am_E.go (n := 1) rfl ?_
                      obtain ⟨q9, hq, h⟩ := am_bindI h
                      obtain ⟨q9_1, q9_2, q9_3⟩ := q9
                      refine am_E.callF rfl (by decide) (axX7_refuse hq) ?_
                      cases h
                      exact am_E.ret rfl ⟨rfl, rfl⟩
                · have h := (if_neg hp).symm.trans h
                  refine am_E.go (n := 1) rfl ?_
                  obtain ⟨q10, hq, h⟩ := am_bindI h
                  obtain ⟨q10_1, q10_2, q10_3⟩ := q10
                  refine am_E.callF rfl (by decide) (axX7_refuse hq) ?_
                  cases h
                  exact am_E.ret rfl ⟨rfl, rfl⟩
              · have h := (if_neg hp).symm.trans h
                refine am_E.go (n := 1) rfl ?_
                obtain ⟨q11, hq, h⟩ := am_bindI h
                obtain ⟨q11_1, q11_2, q11_3⟩ := q11
                refine am_E.callF rfl (by decide) (axX7_refuse hq) ?_
                cases h
                exact am_E.ret rfl ⟨rfl, rfl⟩
          · have h := (if_neg hp).symm.trans h
            refine am_E.go (n := 1) rfl ?_
            obtain ⟨q12, hq, h⟩ := am_bindI h
            obtain ⟨q12_1, q12_2, q12_3⟩ := q12
            refine am_E.callF rfl (by decide) (axX7_refuse hq) ?_
            cases h
            exact am_E.ret rfl ⟨rfl, rfl⟩
def DX7_element (I : Nat → Nat → Int32) (J : Nat → Nat → Int64) (a0 : Int32) (a1 : Int32) : Option Int64 :=
  if (DX7_shelfAt a0) = 0 then
    some ((0 : Int64))
  else
    (DX3_elementAt I J ((DX7_shelfAt a0)) a1).bind fun q1 =>
    some q1
set_option maxHeartbeats 4000000 in
set_option maxRecDepth 100000 in
theorem axX7_element {I : Nat → Nat → Int32} {J : Nat → Nat → Int64} {a0 : Int32} {a1 : Int32} {r : Int64} (h : DX7_element I J a0 a1 = some r) : am_F 2 nX7_element [.ref 0, .int a0, .int a1, .retAddr 0] (TX, I, J, RX) (some (.long r)) (TX, I, J, RX) := by
  unfold DX7_element at h
  unfold am_F
  refine am_E.go (n := 1) rfl ?_
  refine am_E.callF rfl (by decide) (axX7_shelfAt _ _ _) ?_
  by_cases hp : (DX7_shelfAt a0) = 0
  · have h := (if_pos hp).symm.trans h
    rw [am_rv0 hp]
    refine am_E.go (n := 1) rfl ?_
    refine am_E.step rfl ?_
    refine am_E.go (n := 1) rfl ?_
    cases h
    exact am_E.ret rfl ⟨rfl, rfl⟩
  · have h := (if_neg hp).symm.trans h
    rw [am_rv1 hp]
    have hsh0 := axX7_shelfId hp
    refine am_E.go (n := 1) rfl ?_
    refine am_E.grd rfl (am_lt9 (am_shLt hsh0)) ?_
    refine am_E.go (n := 1) rfl ?_
    obtain ⟨q1, hq, h⟩ := am_bindI h
    refine am_E.callGF rfl (am_shTag hsh0) (by decide) (axX3_elementAt hsh0 hq) ?_
    cases h
    exact am_E.ret rfl ⟨rfl, rfl⟩
def DX7_show (I : Nat → Nat → Int32) (J : Nat → Nat → Int64) (a0 : Int32) (a1 : Int32) : Option (Int32 × (Nat → Nat → Int32) × (Nat → Nat → Int64)) :=
  if (DX7_shelfAt a0) = 0 then
    (DX7_refuse I J ((-1 : Int32))).bind fun q1 =>
    some (q1.1, q1.2.1, q1.2.2)
  else
    if a1 = (-1 : Int32) then
      if ¬ a1 = (-1 : Int32) then
        (DX3_takeStuff I J ((DX7_shelfAt a0)) a1).bind fun q2 =>
        some ((1 : Int32), q2.2.1, q2.2.2)
      else
        (DX3_takeNothing I J ((DX7_shelfAt a0))).bind fun q3 =>
        some ((0 : Int32), q3.2.1, q3.2.2)
    else
      if ¬ (DX1_isStuff I 2 a1) = 0 then
        if ¬ a1 = (-1 : Int32) then
          (DX3_takeStuff I J ((DX7_shelfAt a0)) a1).bind fun q4 =>
          some ((1 : Int32), q4.2.1, q4.2.2)
        else
          (DX3_takeNothing I J ((DX7_shelfAt a0))).bind fun q5 =>
          some ((0 : Int32), q5.2.1, q5.2.2)
      else
        (DX7_refuse I J ((-1 : Int32))).bind fun q6 =>
        some (q6.1, q6.2.1, q6.2.2)
set_option maxHeartbeats 4000000 in
set_option maxRecDepth 100000 in
theorem axX7_show {I : Nat → Nat → Int32} {J : Nat → Nat → Int64} {a0 : Int32} {a1 : Int32} {r : Int32} {I' : Nat → Nat → Int32} {J' : Nat → Nat → Int64} (h : DX7_show I J a0 a1 = some (r, I', J')) : am_F 1 nX7_show [.ref 0, .int a0, .int a1, .retAddr 0] (TX, I, J, RX) (some (.int r)) (TX, I', J', RX) := by
  unfold DX7_show at h
  unfold am_F
  refine am_E.go (n := 1) rfl ?_
  refine am_E.callF rfl (by decide) (axX7_shelfAt _ _ _) ?_
  by_cases hp : (DX7_shelfAt a0) = 0
  · have h := (if_pos hp).symm.trans h
    rw [am_rv0 hp]
    refine am_E.go (n := 1) rfl ?_
    refine am_E.step rfl ?_
    refine am_E.go (n := 1) rfl ?_
    obtain ⟨q1, hq, h⟩ := am_bindI h
    obtain ⟨q1_1, q1_2, q1_3⟩ := q1
    refine am_E.callF rfl (by decide) (axX7_refuse hq) ?_
    cases h
    exact am_E.ret rfl ⟨rfl, rfl⟩
  · have h := (if_neg hp).symm.trans h
    rw [am_rv1 hp]
    have hsh0 := axX7_shelfId hp
    refine am_E.go (n := 1) rfl ?_
    refine am_E.grd rfl (am_lt9 (am_shLt hsh0)) ?_
    refine am_E.go (n := 1) rfl ?_
    refine am_E.brk rfl (fun hp => ?_) (fun hp => ?_)
    · have h := (if_pos hp).symm.trans h
      refine am_E.go (n := 1) rfl ?_
      refine am_E.brk rfl (fun hp => ?_) (fun hp => ?_)
      · have h := (if_pos hp).symm.trans h
        refine am_E.go (n := 1) rfl ?_
        obtain ⟨q2, hq, h⟩ := am_bindI h
        obtain ⟨q2_1, q2_2, q2_3⟩ := q2
        refine am_E.callGF rfl (am_shTag hsh0) (by decide) (axX3_takeStuff hsh0 hq) ?_
        refine am_E.go (n := 0) rfl ?_
        cases h
        exact am_E.ret rfl ⟨rfl, rfl⟩
      · have h := (if_neg hp).symm.trans h
        refine am_E.go (n := 0) rfl ?_
        obtain ⟨q3, hq, h⟩ := am_bindI h
        obtain ⟨q3_1, q3_2, q3_3⟩ := q3
        refine am_E.callGF rfl (am_shTag hsh0) (by decide) (axX3_takeNothing hsh0 hq) ?_
        refine am_E.go (n := 0) rfl ?_
        cases h
        exact am_E.ret rfl ⟨rfl, rfl⟩
    · have h := (if_neg hp).symm.trans h
      refine am_E.go (n := 2) rfl ?_
      refine am_E.callF rfl (by decide) (axX1_isStuff (by decide) rfl) ?_
      refine am_E.brk rfl (fun hp => ?_) (fun hp => ?_)
      · have h := (if_pos hp).symm.trans h
        refine am_E.go (n := 1) rfl ?_
        refine am_E.brk rfl (fun hp => ?_) (fun hp => ?_)
        · have h := (if_pos hp).symm.trans h
          refine am_E.go (n := 1) rfl ?_
          obtain ⟨q4, hq, h⟩ := am_bindI h
          obtain ⟨q4_1, q4_2, q4_3⟩ := q4
          refine am_E.callGF rfl (am_shTag hsh0) (by decide) (axX3_takeStuff hsh0 hq) ?_
          refine am_E.go (n := 0) rfl ?_
          cases h
          exact am_E.ret rfl ⟨rfl, rfl⟩
        · have h := (if_neg hp).symm.trans h
          refine am_E.go (n := 0) rfl ?_
          obtain ⟨q5, hq, h⟩ := am_bindI h
          obtain ⟨q5_1, q5_2, q5_3⟩ := q5
          refine am_E.callGF rfl (am_shTag hsh0) (by decide) (axX3_takeNothing hsh0 hq) ?_
          refine am_E.go (n := 0) rfl ?_
          cases h
          exact am_E.ret rfl ⟨rfl, rfl⟩
      · have h := (if_neg hp).symm.trans h
        refine am_E.go (n := 1) rfl ?_
        obtain ⟨q6, hq, h⟩ := am_bindI h
        obtain ⟨q6_1, q6_2, q6_3⟩ := q6
        refine am_E.callF rfl (by decide) (axX7_refuse hq) ?_
        cases h
        exact am_E.ret rfl ⟨rfl, rfl⟩
def DX7_holds (I : Nat → Nat → Int32) (a0 : Int32) : Int32 :=
  if (DX7_shelfAt a0) = 0 then
    (-1 : Int32)
  else
    (DX3_told I ((DX7_shelfAt a0)))
set_option maxHeartbeats 4000000 in
set_option maxRecDepth 100000 in
theorem axX7_holds {I : Nat → Nat → Int32} {J : Nat → Nat → Int64} {a0 : Int32} {r : Int32} (h : DX7_holds I a0 = r) : am_F 3 nX7_holds [.ref 0, .int a0, .retAddr 0] (TX, I, J, RX) (some (.int r)) (TX, I, J, RX) := by
  unfold DX7_holds at h
  unfold am_F
  refine am_E.go (n := 1) rfl ?_
  refine am_E.callF rfl (by decide) (axX7_shelfAt _ _ _) ?_
  by_cases hp : (DX7_shelfAt a0) = 0
  · have h := (if_pos hp).symm.trans h
    rw [am_rv0 hp]
    refine am_E.go (n := 1) rfl ?_
    refine am_E.step rfl ?_
    refine am_E.go (n := 1) rfl ?_
    subst h
    exact am_E.ret rfl ⟨rfl, rfl⟩
  · have h := (if_neg hp).symm.trans h
    rw [am_rv1 hp]
    have hsh0 := axX7_shelfId hp
    refine am_E.go (n := 1) rfl ?_
    refine am_E.grd rfl (am_lt9 (am_shLt hsh0)) ?_
    refine am_E.go (n := 0) rfl ?_
    refine am_E.callGF rfl (am_shTag hsh0) (by decide) (axX3_told hsh0 rfl) ?_
    subst h
    exact am_E.ret rfl ⟨rfl, rfl⟩
def DX7_saidAs (I : Nat → Nat → Int32) (a0 : Int32) (a1 : Int32) : Option Int32 :=
  if a1 = 0 then
    ((DX1_colourOf I 2 a0).bind fun q1 =>
    some q1)
  else if a1 = 1 then
    ((DX1_cellsLaidWith I 2 a0).bind fun q2 =>
    some q2)
  else if a1 = 2 then
    ((DX1_cellsPlannedWith I 2 a0).bind fun q3 =>
    some q3)
  else if a1 = 3 then
    ((DX1_kindOf I 2 a0).bind fun q4 =>
    (DX1_aOf I 2 a0).bind fun q5 =>
    (DX2_freshness q4 q5 ((24 : Int32)) ((0 : Int32)) ((2 : Int32))).bind fun q6 =>
    some q6)
  else if a1 = 4 then
    ((DX1_kindOf I 2 a0).bind fun q7 =>
    (DX1_aOf I 2 a0).bind fun q8 =>
    (DX2_freshness q7 q8 ((24 : Int32)) ((0 : Int32)) ((2 : Int32))).bind fun q9 =>
    some q9)
  else if a1 = 5 then
    ((DX1_kindOf I 2 a0).bind fun q10 =>
    (DX1_aOf I 2 a0).bind fun q11 =>
    (DX2_freshness q10 q11 ((24 : Int32)) ((0 : Int32)) ((2 : Int32))).bind fun q12 =>
    some q12)
  else if a1 = 6 then
    ((DX1_aOf I 2 a0).bind fun q13 =>
    some q13)
  else (DX1_kindOf I 2 a0).bind fun q14 =>
  (DX1_aOf I 2 a0).bind fun q15 =>
  (DX2_freshness q14 q15 ((24 : Int32)) ((0 : Int32)) ((2 : Int32))).bind fun q16 =>
  some q16
set_option maxHeartbeats 4000000 in
set_option maxRecDepth 100000 in
theorem axX7_saidAs {I : Nat → Nat → Int32} {J : Nat → Nat → Int64} {a0 : Int32} {a1 : Int32} {r : Int32} (h : DX7_saidAs I a0 a1 = some r) : am_F 2 nX7_saidAs [.ref 0, .int a0, .int a1] (TX, I, J, RX) (some (.int r)) (TX, I, J, RX) := by
  unfold DX7_saidAs at h
  unfold am_F
  refine am_E.go (n := 0) rfl ?_
  refine am_E.sw rfl ?_
  refine ⟨fun hp => ?_, fun hp => ?_⟩
  · have h := (if_pos hp).symm.trans h
    refine am_E.go (n := 2) rfl ?_
    obtain ⟨q1, hq, h⟩ := am_bindI h
    refine am_E.callF rfl (by decide) (axX1_colourOf (by decide) hq) ?_
    cases h
    exact am_E.ret rfl ⟨rfl, rfl⟩
  have h := (if_neg hp).symm.trans h
  refine ⟨fun hp => ?_, fun hp => ?_⟩
  · have h := (if_pos hp).symm.trans h
    refine am_E.go (n := 2) rfl ?_
    obtain ⟨q2, hq, h⟩ := am_bindI h
    refine am_E.callF rfl (by decide) (axX1_cellsLaidWith (by decide) hq) ?_
    cases h
    exact am_E.ret rfl ⟨rfl, rfl⟩
  have h := (if_neg hp).symm.trans h
  refine ⟨fun hp => ?_, fun hp => ?_⟩
  · have h := (if_pos hp).symm.trans h
    refine am_E.go (n := 2) rfl ?_
    obtain ⟨q3, hq, h⟩ := am_bindI h
    refine am_E.callF rfl (by decide) (axX1_cellsPlannedWith (by decide) hq) ?_
    cases h
    exact am_E.ret rfl ⟨rfl, rfl⟩
  have h := (if_neg hp).symm.trans h
  refine ⟨fun hp => ?_, fun hp => ?_⟩
  · have h := (if_pos hp).symm.trans h
    refine am_E.go (n := 2) rfl ?_
    obtain ⟨q4, hq, h⟩ := am_bindI h
    refine am_E.callF rfl (by decide) (axX1_kindOf (by decide) hq) ?_
    refine am_E.go (n := 2) rfl ?_
    obtain ⟨q5, hq, h⟩ := am_bindI h
    refine am_E.callF rfl (by decide) (axX1_aOf (by decide) hq) ?_
    refine am_E.go (n := 2) rfl ?_
    obtain ⟨q6, hq, h⟩ := am_bindI h
    refine am_E.callF rfl (by decide) (axX2_freshness hq) ?_
    cases h
    exact am_E.ret rfl ⟨rfl, rfl⟩
  have h := (if_neg hp).symm.trans h
  refine ⟨fun hp => ?_, fun hp => ?_⟩
  · have h := (if_pos hp).symm.trans h
    refine am_E.go (n := 2) rfl ?_
    obtain ⟨q7, hq, h⟩ := am_bindI h
    refine am_E.callF rfl (by decide) (axX1_kindOf (by decide) hq) ?_
    refine am_E.go (n := 2) rfl ?_
    obtain ⟨q8, hq, h⟩ := am_bindI h
    refine am_E.callF rfl (by decide) (axX1_aOf (by decide) hq) ?_
    refine am_E.go (n := 2) rfl ?_
    obtain ⟨q9, hq, h⟩ := am_bindI h
    refine am_E.callF rfl (by decide) (axX2_freshness hq) ?_
    cases h
    exact am_E.ret rfl ⟨rfl, rfl⟩
  have h := (if_neg hp).symm.trans h
  refine ⟨fun hp => ?_, fun hp => ?_⟩
  · have h := (if_pos hp).symm.trans h
    refine am_E.go (n := 2) rfl ?_
    obtain ⟨q10, hq, h⟩ := am_bindI h
    refine am_E.callF rfl (by decide) (axX1_kindOf (by decide) hq) ?_
    refine am_E.go (n := 2) rfl ?_
    obtain ⟨q11, hq, h⟩ := am_bindI h
    refine am_E.callF rfl (by decide) (axX1_aOf (by decide) hq) ?_
    refine am_E.go (n := 2) rfl ?_
    obtain ⟨q12, hq, h⟩ := am_bindI h
    refine am_E.callF rfl (by decide) (axX2_freshness hq) ?_
    cases h
    exact am_E.ret rfl ⟨rfl, rfl⟩
  have h := (if_neg hp).symm.trans h
  refine ⟨fun hp => ?_, fun hp => ?_⟩
  · have h := (if_pos hp).symm.trans h
    refine am_E.go (n := 2) rfl ?_
    obtain ⟨q13, hq, h⟩ := am_bindI h
    refine am_E.callF rfl (by decide) (axX1_aOf (by decide) hq) ?_
    cases h
    exact am_E.ret rfl ⟨rfl, rfl⟩
  have h := (if_neg hp).symm.trans h
  refine am_E.go (n := 2) rfl ?_
  obtain ⟨q14, hq, h⟩ := am_bindI h
  refine am_E.callF rfl (by decide) (axX1_kindOf (by decide) hq) ?_
  refine am_E.go (n := 2) rfl ?_
  obtain ⟨q15, hq, h⟩ := am_bindI h
  refine am_E.callF rfl (by decide) (axX1_aOf (by decide) hq) ?_
  refine am_E.go (n := 2) rfl ?_
  obtain ⟨q16, hq, h⟩ := am_bindI h
  refine am_E.callF rfl (by decide) (axX2_freshness hq) ?_
  cases h
  exact am_E.ret rfl ⟨rfl, rfl⟩
def DX7_says (I : Nat → Nat → Int32) (J : Nat → Nat → Int64) (a0 : Int32) (a1 : Int32) : Option (Int32 × (Nat → Nat → Int32) × (Nat → Nat → Int64)) :=
  if (DX7_shelfAt a0) = 0 then
    (DX7_refuse I J ((-1 : Int32))).bind fun q1 =>
    some (q1.1, q1.2.1, q1.2.2)
  else
    if a1 < 0 then
      (DX7_refuse I J ((-1 : Int32))).bind fun q2 =>
      some (q2.1, q2.2.1, q2.2.2)
    else
      if a1 < (7 : Int32) then
        if (DX3_holdsRow I ((DX7_shelfAt a0))) = 0 then
          if ¬ (DX3_holdsStuff I ((DX7_shelfAt a0))) = 0 then
            (DX1_kindOf I 2 ((DX3_stuffHeld I ((DX7_shelfAt a0))))).bind fun q3 =>
            (DX2_isUnder I q3 a1).bind fun q4 =>
            if ¬ q4 = 0 then
              (DX7_saidAs I ((DX3_stuffHeld I ((DX7_shelfAt a0)))) a1).bind fun q5 =>
              some (q5, I, J)
            else
              (DX7_refuse I J ((-2 : Int32))).bind fun q6 =>
              some (q6.1, q6.2.1, q6.2.2)
          else
            (DX7_refuse I J ((-3 : Int32))).bind fun q7 =>
            some (q7.1, q7.2.1, q7.2.2)
        else
          (DX7_refuse I J ((-2 : Int32))).bind fun q8 =>
          some (q8.1, q8.2.1, q8.2.2)
      else
        (DX7_refuse I J ((-1 : Int32))).bind fun q9 =>
        some (q9.1, q9.2.1, q9.2.2)
set_option maxHeartbeats 4000000 in
set_option maxRecDepth 100000 in
theorem axX7_says {I : Nat → Nat → Int32} {J : Nat → Nat → Int64} {a0 : Int32} {a1 : Int32} {r : Int32} {I' : Nat → Nat → Int32} {J' : Nat → Nat → Int64} (h : DX7_says I J a0 a1 = some (r, I', J')) : am_F 3 nX7_says [.ref 0, .int a0, .int a1, .retAddr 0, .retAddr 0] (TX, I, J, RX) (some (.int r)) (TX, I', J', RX) := by
  unfold DX7_says at h
  unfold am_F
  refine am_E.go (n := 1) rfl ?_
  refine am_E.callF rfl (by decide) (axX7_shelfAt _ _ _) ?_
  by_cases hp : (DX7_shelfAt a0) = 0
  · have h := (if_pos hp).symm.trans h
    rw [am_rv0 hp]
    refine am_E.go (n := 1) rfl ?_
    refine am_E.step rfl ?_
    refine am_E.go (n := 1) rfl ?_
    obtain ⟨q1, hq, h⟩ := am_bindI h
    obtain ⟨q1_1, q1_2, q1_3⟩ := q1
    refine am_E.callF rfl (by decide) (axX7_refuse hq) ?_
    cases h
    exact am_E.ret rfl ⟨rfl, rfl⟩
  · have h := (if_neg hp).symm.trans h
    rw [am_rv1 hp]
    have hsh0 := axX7_shelfId hp
    refine am_E.go (n := 1) rfl ?_
    refine am_E.grd rfl (am_lt9 (am_shLt hsh0)) ?_
    refine am_E.go (n := 0) rfl ?_
    refine am_E.brk rfl (fun hp => ?_) (fun hp => ?_)
    · have h := (if_pos hp).symm.trans h
      refine am_E.go (n := 1) rfl ?_
      obtain ⟨q2, hq, h⟩ := am_bindI h
      obtain ⟨q2_1, q2_2, q2_3⟩ := q2
      refine am_E.callF rfl (by decide) (axX7_refuse hq) ?_
      cases h
      exact am_E.ret rfl ⟨rfl, rfl⟩
    · have h := (if_neg hp).symm.trans h
      refine am_E.go (n := 1) rfl ?_
      refine am_E.brk rfl (fun hp => ?_) (fun hp => ?_)
      · have h := (if_pos hp).symm.trans h
        refine am_E.go (n := 0) rfl ?_
        refine am_E.callGF rfl (am_shTag hsh0) (by decide) (axX3_holdsRow hsh0 rfl) ?_
        refine am_E.brk rfl (fun hp => ?_) (fun hp => ?_)
        · have h := (if_pos hp).symm.trans h
          refine am_E.go (n := 0) rfl ?_
          refine am_E.callGF rfl (am_shTag hsh0) (by decide) (axX3_holdsStuff hsh0 rfl) ?_
          refine am_E.brk rfl (fun hp => ?_) (fun hp => ?_)
          · have h := (if_pos hp).symm.trans h
            refine am_E.go (n := 0) rfl ?_
            refine am_E.callGF rfl (am_shTag hsh0) (by decide) (axX3_stuffHeld hsh0 rfl) ?_
            refine am_E.go (n := 3) rfl ?_
            obtain ⟨q3, hq, h⟩ := am_bindI h
            refine am_E.callF rfl (by decide) (axX1_kindOf (by decide) hq) ?_
            refine am_E.go (n := 0) rfl ?_
            obtain ⟨q4, hq, h⟩ := am_bindI h
            refine am_E.callF rfl (by decide) (axX2_isUnder hq) ?_
            refine am_E.brk rfl (fun hp => ?_) (fun hp => ?_)
            · have h := (if_pos hp).symm.trans h
              refine am_E.go (n := 2) rfl ?_
              obtain ⟨q5, hq, h⟩ := am_bindI h
              refine am_E.callF rfl (by decide) (axX7_saidAs hq) ?_
              cases h
              exact am_E.ret rfl ⟨rfl, rfl⟩
            · have h := (if_neg hp).symm.trans h
              refine am_E.go (n := 1) rfl ?_
              obtain ⟨q6, hq, h⟩ := am_bindI h
              obtain ⟨q6_1, q6_2, q6_3⟩ := q6
              refine am_E.callF rfl (by decide) (axX7_refuse hq) ?_
              cases h
              exact am_E.ret rfl ⟨rfl, rfl⟩
          · have h := (if_neg hp).symm.trans h
            refine am_E.go (n := 1) rfl ?_
            obtain ⟨q7, hq, h⟩ := am_bindI h
            obtain ⟨q7_1, q7_2, q7_3⟩ := q7
            refine am_E.callF rfl (by decide) (axX7_refuse hq) ?_
            cases h
            exact am_E.ret rfl ⟨rfl, rfl⟩
        · have h := (if_neg hp).symm.trans h
          refine am_E.go (n := 1) rfl ?_
          obtain ⟨q8, hq, h⟩ := am_bindI h
          obtain ⟨q8_1, q8_2, q8_3⟩ := q8
          refine am_E.callF rfl (by decide) (axX7_refuse hq) ?_
          cases h
          exact am_E.ret rfl ⟨rfl, rfl⟩
      · have h := (if_neg hp).symm.trans h
        refine am_E.go (n := 1) rfl ?_
        obtain ⟨q9, hq, h⟩ := am_bindI h
        obtain ⟨q9_1, q9_2, q9_3⟩ := q9
        refine am_E.callF rfl (by decide) (axX7_refuse hq) ?_
        cases h
        exact am_E.ret rfl ⟨rfl, rfl⟩
