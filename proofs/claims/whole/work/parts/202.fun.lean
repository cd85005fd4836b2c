/-! THE METHODS AS FUNCTIONS over the memory, and the row that their runs do so: laid by program (wip/whole/decomp.py) -/
def DX4_freshBehind (I : Nat → Nat → Int32) (g0 : Nat) (a1 : Int32) (a2 : Int32) (a3 : Int32) : Option Int32 :=
  (DX1_laidAt I g0 a1).bind fun q1 =>
  if ¬ q1 = (-1 : Int32) then
    (DX1_isInSun a1 a2).bind fun q2 =>
    (DX1_sunAt I g0 a1).bind fun q3 =>
    if q2 = 0 then
      (DX1_shadeAt I g0 a1).bind fun q4 =>
      if q2 = 0 then
        (DX1_kindOf I g0 q1).bind fun q5 =>
        (DX1_aOf I g0 q1).bind fun q6 =>
        (DX1_spraysAt I g0 a1).bind fun q7 =>
        (DX2_freshness q5 q6 ((q3 + (0 : Int32))) ((q4 + a3)) q7).bind fun q8 =>
        some q8
      else
        (DX1_kindOf I g0 q1).bind fun q9 =>
        (DX1_aOf I g0 q1).bind fun q10 =>
        (DX1_spraysAt I g0 a1).bind fun q11 =>
        (DX2_freshness q9 q10 ((q3 + (0 : Int32))) ((q4 + (0 : Int32))) q11).bind fun q12 =>
        some q12
    else
      (DX1_shadeAt I g0 a1).bind fun q13 =>
      if q2 = 0 then
        (DX1_kindOf I g0 q1).bind fun q14 =>
        (DX1_aOf I g0 q1).bind fun q15 =>
        (DX1_spraysAt I g0 a1).bind fun q16 =>
        (DX2_freshness q14 q15 ((q3 + a3)) ((q13 + a3)) q16).bind fun q17 =>
        some q17
      else
        (DX1_kindOf I g0 q1).bind fun q18 =>
        (DX1_aOf I g0 q1).bind fun q19 =>
        (DX1_spraysAt I g0 a1).bind fun q20 =>
        (DX2_freshness q18 q19 ((q3 + a3)) ((q13 + (0 : Int32))) q20).bind fun q21 =>
        some q21
  else
    some ((0 : Int32))
set_option maxHeartbeats 4000000 in
set_option maxRecDepth 100000 in
theorem axX4_freshBehind {I : Nat → Nat → Int32} {J : Nat → Nat → Int64} {g0 : Nat} {a1 : Int32} {a2 : Int32} {a3 : Int32} {r : Int32} (hg0 : dm_b g0) (h : DX4_freshBehind I g0 a1 a2 a3 = some r) : am_F 2 nX4_freshBehind [.ref g0, .int a1, .int a2, .int a3, .retAddr 0, .retAddr 0, .retAddr 0, .retAddr 0] (TX, I, J, RX) (some (.int r)) (TX, I, J, RX) := by
  unfold DX4_freshBehind at h
  unfold am_F
  unfold dm_b at hg0
  rcases hg0 with rfl | rfl | rfl
  all_goals
    refine am_E.go (n := 1) rfl ?_
    obtain ⟨q1, hq, h⟩ := am_bindI h
    refine am_E.callF rfl (by decide) (axX1_laidAt (by decide) hq) ?_
    refine am_E.go (n := 2) rfl ?_
    refine am_E.brk rfl (fun hp => ?_) (fun hp => ?_)
    · have h := (if_pos hp).symm.trans h
      refine am_E.go (n := 1) rfl ?_
      obtain ⟨q2, hq, h⟩ := am_bindI h
      refine am_E.callF rfl (by decide) (axX1_isInSun hq) ?_
      refine am_E.go (n := 2) rfl ?_
      obtain ⟨q3, hq, h⟩ := am_bindI h
      refine am_E.callF rfl (by decide) (axX1_sunAt (by decide) hq) ?_
      refine am_E.go (n := 0) rfl ?_
      refine am_E.brk rfl (fun hp => ?_) (fun hp => ?_)
      · have h := (if_pos hp).symm.trans h
        refine am_E.go (n := 4) rfl ?_
        obtain ⟨q4, hq, h⟩ := am_bindI h
        refine am_E.callF rfl (by decide) (axX1_shadeAt (by decide) hq) ?_
        refine am_E.go (n := 0) rfl ?_
        refine am_E.brk rfl (fun hp => ?_) (fun hp => ?_)
        · have h := (if_pos hp).symm.trans h
          refine am_E.go (n := 4) rfl ?_
          obtain ⟨q5, hq, h⟩ := am_bindI h
          refine am_E.callF rfl (by decide) (axX1_kindOf (by decide) hq) ?_
          refine am_E.go (n := 1) rfl ?_
          obtain ⟨q6, hq, h⟩ := am_bindI h
          refine am_E.callF rfl (by decide) (axX1_aOf (by decide) hq) ?_
          refine am_E.go (n := 3) rfl ?_
          obtain ⟨q7, hq, h⟩ := am_bindI h
          refine am_E.callF rfl (by decide) (axX1_spraysAt (by decide) hq) ?_
          obtain ⟨q8, hq, h⟩ := am_bindI h
          refine am_E.callF rfl (by decide) (axX2_freshness hq) ?_
          cases h
          exact am_E.ret rfl ⟨rfl, rfl⟩
        · have h := (if_neg hp).symm.trans h
          refine am_E.go (n := 5) rfl ?_
          obtain ⟨q9, hq, h⟩ := am_bindI h
          refine am_E.callF rfl (by decide) (axX1_kindOf (by decide) hq) ?_
          refine am_E.go (n := 1) rfl ?_
          obtain ⟨q10, hq, h⟩ := am_bindI h
          refine am_E.callF rfl (by decide) (axX1_aOf (by decide) hq) ?_
          refine am_E.go (n := 3) rfl ?_
          obtain ⟨q11, hq, h⟩ := am_bindI h
          refine am_E.callF rfl (by decide) (axX1_spraysAt (by decide) hq) ?_
          obtain ⟨q12, hq, h⟩ := am_bindI h
          refine am_E.callF rfl (by decide) (axX2_freshness hq) ?_
          cases h
          exact am_E.ret rfl ⟨rfl, rfl⟩
      · have h := (if_neg hp).symm.trans h
        refine am_E.go (n := 5) rfl ?_
        obtain ⟨q13, hq, h⟩ := am_bindI h
        refine am_E.callF rfl (by decide) (axX1_shadeAt (by decide) hq) ?_
        refine am_E.go (n := 0) rfl ?_
        refine am_E.brk rfl (fun hp => ?_) (fun hp => ?_)
        · have h := (if_pos hp).symm.trans h
          refine am_E.go (n := 4) rfl ?_
          obtain ⟨q14, hq, h⟩ := am_bindI h
          refine am_E.callF rfl (by decide) (axX1_kindOf (by decide) hq) ?_
          refine am_E.go (n := 1) rfl ?_
          obtain ⟨q15, hq, h⟩ := am_bindI h
          refine am_E.callF rfl (by decide) (axX1_aOf (by decide) hq) ?_
          refine am_E.go (n := 3) rfl ?_
          obtain ⟨q16, hq, h⟩ := am_bindI h
          refine am_E.callF rfl (by decide) (axX1_spraysAt (by decide) hq) ?_
          obtain ⟨q17, hq, h⟩ := am_bindI h
          refine am_E.callF rfl (by decide) (axX2_freshness hq) ?_
          cases h
          exact am_E.ret rfl ⟨rfl, rfl⟩
        · have h := (if_neg hp).symm.trans h
          refine am_E.go (n := 5) rfl ?_
          obtain ⟨q18, hq, h⟩ := am_bindI h
          refine am_E.callF rfl (by decide) (axX1_kindOf (by decide) hq) ?_
          refine am_E.go (n := 1) rfl ?_
          obtain ⟨q19, hq, h⟩ := am_bindI h
          refine am_E.callF rfl (by decide) (axX1_aOf (by decide) hq) ?_
          refine am_E.go (n := 3) rfl ?_
          obtain ⟨q20, hq, h⟩ := am_bindI h
          refine am_E.callF rfl (by decide) (axX1_spraysAt (by decide) hq) ?_
          obtain ⟨q21, hq, h⟩ := am_bindI h
          refine am_E.callF rfl (by decide) (axX2_freshness hq) ?_
          cases h
          exact am_E.ret rfl ⟨rfl, rfl⟩
    · have h := (if_neg hp).symm.trans h
      refine am_E.go (n := 0) rfl ?_
      cases h
      exact am_E.ret rfl ⟨rfl, rfl⟩
def DX4_hasItsColour (I : Nat → Nat → Int32) (g0 : Nat) (a1 : Int32) : Option Int32 :=
  (DX1_laidAt I g0 a1).bind fun q1 =>
  if q1 = (-1 : Int32) then
    some ((0 : Int32))
  else
    (DX1_colourOf I g0 q1).bind fun q2 =>
    (DX1_drawnAt I g0 a1).bind fun q3 =>
    if ¬ q2 = q3 then
      some ((0 : Int32))
    else
      some ((1 : Int32))
set_option maxHeartbeats 4000000 in
set_option maxRecDepth 100000 in
theorem axX4_hasItsColour {I : Nat → Nat → Int32} {J : Nat → Nat → Int64} {g0 : Nat} {a1 : Int32} {r : Int32} (hg0 : dm_b g0) (h : DX4_hasItsColour I g0 a1 = some r) : am_F 2 nX4_hasItsColour [.ref g0, .int a1, .retAddr 0] (TX, I, J, RX) (some (.int r)) (TX, I, J, RX) := by
  unfold DX4_hasItsColour at h
  unfold am_F
  unfold dm_b at hg0
  rcases hg0 with rfl | rfl | rfl
  all_goals
    refine am_E.go (n := 1) rfl ?_
    obtain ⟨q1, hq, h⟩ := am_bindI h
    refine am_E.callF rfl (by decide) (axX1_laidAt (by decide) hq) ?_
    refine am_E.go (n := 2) rfl ?_
    refine am_E.brk rfl (fun hp => ?_) (fun hp => ?_)
    · have h := (if_pos hp).symm.trans h
      refine am_E.go (n := 0) rfl ?_
      cases h
      first | exact am_E.ret rfl ⟨rfl, rfl⟩ | exact am_E.retG rfl (by decide) ⟨rfl, rfl⟩
    · have h := (if_neg hp).symm.trans h
      refine am_E.go (n := 1) rfl ?_
      obtain ⟨q2, hq, h⟩ := am_bindI h
      refine am_E.callF rfl (by decide) (axX1_colourOf (by decide) hq) ?_
      refine am_E.go (n := 1) rfl ?_
      obtain ⟨q3, hq, h⟩ := am_bindI h
      refine am_E.callF rfl (by decide) (axX1_drawnAt (by decide) hq) ?_
      refine am_E.brk rfl (fun hp => ?_) (fun hp => ?_)
      · have h := (if_pos hp).symm.trans h
        refine am_E.go (n := 0) rfl ?_
        cases h
        first | exact am_E.ret rfl ⟨rfl, rfl⟩ | exact am_E.retG rfl (by decide) ⟨rfl, rfl⟩
      · have h := (if_neg hp).symm.trans h
        refine am_E.go (n := 1) rfl ?_
        cases h
        first | exact am_E.ret rfl ⟨rfl, rfl⟩ | exact am_E.retG rfl (by decide) ⟨rfl, rfl⟩
def DX4_beautyBehind (I : Nat → Nat → Int32) (g0 : Nat) (a1 : Int32) (a2 : Int32) (a3 : Int32) : Option Int32 :=
  (DX4_hasItsColour I g0 a1).bind fun q1 =>
  if q1 = 0 then
    some ((0 : Int32))
  else
    (DX4_freshBehind I g0 a1 a2 a3).bind fun q2 =>
    some q2
set_option maxHeartbeats 4000000 in
set_option maxRecDepth 100000 in
theorem axX4_beautyBehind {I : Nat → Nat → Int32} {J : Nat → Nat → Int64} {g0 : Nat} {a1 : Int32} {a2 : Int32} {a3 : Int32} {r : Int32} (hg0 : dm_b g0) (h : DX4_beautyBehind I g0 a1 a2 a3 = some r) : am_F 3 nX4_beautyBehind [.ref g0, .int a1, .int a2, .int a3] (TX, I, J, RX) (some (.int r)) (TX, I, J, RX) := by
  unfold DX4_beautyBehind at h
  unfold am_F
  unfold dm_b at hg0
  rcases hg0 with rfl | rfl | rfl
  all_goals
    refine am_E.go (n := 1) rfl ?_
    obtain ⟨q1, hq, h⟩ := am_bindI h
    refine am_E.callF rfl (by decide) (axX4_hasItsColour (by decide) hq) ?_
    refine am_E.brk rfl (fun hp => ?_) (fun hp => ?_)
    · have h := (if_pos hp).symm.trans h
      refine am_E.go (n := 0) rfl ?_
      cases h
      exact am_E.ret rfl ⟨rfl, rfl⟩
    · have h := (if_neg hp).symm.trans h
      refine am_E.go (n := 3) rfl ?_
      obtain ⟨q2, hq, h⟩ := am_bindI h
      refine am_E.callF rfl (by decide) (axX4_freshBehind (by decide) hq) ?_
      refine am_E.go (n := 0) rfl ?_
      cases h
      exact am_E.ret rfl ⟨rfl, rfl⟩
def LX4_looksBehind : Nat → (Nat → Nat → Int32) → Nat → Int32 → Int32 → Int32 → Int32 → Option Int32
  | 0, _, _, _, _, _, _ => none
  | n + 1, I, g0, x1, x2, x3, x4 =>
    if (24 : Int32) ≤ x4 then
      some x3
    else
      (DX4_hasItsColour I g0 x4).bind fun q3 =>
      if q3 = 0 then
        LX4_looksBehind n I g0 x1 x2 x3 ((x4 + (1 : Int32)))
      else
        (DX4_freshBehind I g0 x4 x1 x2).bind fun q4 =>
        LX4_looksBehind n I g0 x1 x2 ((x3 + q4)) ((x4 + (1 : Int32)))
def DX4_looksBehind (I : Nat → Nat → Int32) (g0 : Nat) (a1 : Int32) (a2 : Int32) : Option Int32 :=
  LX4_looksBehind am_FU I g0 a1 a2 ((0 : Int32)) ((0 : Int32))
set_option maxHeartbeats 4000000 in
set_option maxRecDepth 100000 in
theorem alX4_looksBehind : ∀ (n : Nat), ∀ {I : Nat → Nat → Int32} {J : Nat → Nat → Int64} {g0 : Nat} {x1 : Int32} {x2 : Int32} {x3 : Int32} {x4 : Int32} {r : Int32}, dm_b g0 → LX4_looksBehind n I g0 x1 x2 x3 x4 = some r → am_E 3 nX4_looksBehind (5, [.ref g0, .int x1, .int x2, .int x3, .int x4], [], (TX, I, J, RX)) (fun v M' => v = some (.int r) ∧ M' = (TX, I, J, RX)) := by
  intro n
  induction n with
  | zero => intros; contradiction
  | succ n ih =>
    intro I J g0 x1 x2 x3 x4 r hg0 h
    simp only [LX4_looksBehind] at h
    unfold dm_b at hg0
    rcases hg0 with rfl | rfl | rfl
    all_goals
      refine am_E.go (n := 1) rfl ?_
      refine am_E.brk rfl (fun hp => ?_) (fun hp => ?_)
      · have h := (if_pos hp).symm.trans h
        refine am_E.go (n := 0) rfl ?_
        cases h
        exact am_E.ret rfl ⟨rfl, rfl⟩
      · have h := (if_neg hp).symm.trans h
        refine am_E.go (n := 1) rfl ?_
        obtain ⟨q3, hq, h⟩ := am_bindI h
        refine am_E.callF rfl (by decide) (axX4_hasItsColour (by decide) hq) ?_
        refine am_E.brk rfl (fun hp => ?_) (fun hp => ?_)
        · have h := (if_pos hp).symm.trans h
          refine am_E.go (n := 1) rfl ?_
          exact ih (by decide) h
        · have h := (if_neg hp).symm.trans h
          refine am_E.go (n := 4) rfl ?_
          obtain ⟨q4, hq, h⟩ := am_bindI h
          refine am_E.callF rfl (by decide) (axX4_freshBehind (by decide) hq) ?_
          refine am_E.go (n := 3) rfl ?_
          exact ih (by decide) h
set_option maxHeartbeats 4000000 in
set_option maxRecDepth 100000 in
theorem axX4_looksBehind {I : Nat → Nat → Int32} {J : Nat → Nat → Int64} {g0 : Nat} {a1 : Int32} {a2 : Int32} {r : Int32} (hg0 : dm_b g0) (h : DX4_looksBehind I g0 a1 a2 = some r) : am_F 3 nX4_looksBehind [.ref g0, .int a1, .int a2, .retAddr 0, .retAddr 0] (TX, I, J, RX) (some (.int r)) (TX, I, J, RX) := by
  unfold DX4_looksBehind at h
  unfold am_F
  unfold dm_b at hg0
  rcases hg0 with rfl | rfl | rfl
  all_goals
    refine am_E.go (n := 3) rfl ?_
    exact (alX4_looksBehind am_FU) (by decide) h
def LX4_worstHour : Nat → (Nat → Nat → Int32) → Nat → Int32 → Int32 → Int32 → Int32 → Option Int32
  | 0, _, _, _, _, _, _ => none
  | n + 1, I, g0, x2, x3, x4, x5 =>
    if x2 < x5 then
      some x3
    else
      (DX4_looksBehind I g0 ((DX1_sunnySide I g0)) x5).bind fun q3 =>
      if x4 ≤ q3 then
        LX4_worstHour n I g0 x2 x3 x4 ((x5 + (1 : Int32)))
      else
        LX4_worstHour n I g0 x2 x5 q3 ((x5 + (1 : Int32)))
def DX4_worstHour (I : Nat → Nat → Int32) (g0 : Nat) (a1 : Int32) (a2 : Int32) : Option Int32 :=
  (DX4_looksBehind I g0 ((DX1_sunnySide I g0)) a1).bind fun q1 =>
  LX4_worstHour am_FU I g0 a2 a1 q1 ((a1 + (1 : Int32)))
set_option maxHeartbeats 4000000 in
set_option maxRecDepth 100000 in
theorem alX4_worstHour : ∀ (n : Nat), ∀ {I : Nat → Nat → Int32} {J : Nat → Nat → Int64} {g0 : Nat} {x2 : Int32} {x3 : Int32} {x4 : Int32} {x5 : Int32} {r : Int32}, dm_b g0 → LX4_worstHour n I g0 x2 x3 x4 x5 = some r → am_E 4 nX4_worstHour (18, [.ref g0, .retAddr 0, .int x2, .int x3, .int x4, .int x5, .retAddr 0], [], (TX, I, J, RX)) (fun v M' => v = some (.int r) ∧ M' = (TX, I, J, RX)) := by
  intro n
  induction n with
  | zero => intros; contradiction
  | succ n ih =>
    intro I J g0 x2 x3 x4 x5 r hg0 h
    simp only [LX4_worstHour] at h
    unfold dm_b at hg0
    rcases hg0 with rfl | rfl | rfl
    all_goals
      refine am_E.go (n := 1) rfl ?_
      refine am_E.brk rfl (fun hp => ?_) (fun hp => ?_)
      · have h := (if_pos hp).symm.trans h
        refine am_E.go (n := 0) rfl ?_
        cases h
        exact am_E.ret rfl ⟨rfl, rfl⟩
      · have h := (if_neg hp).symm.trans h
        refine am_E.go (n := 1) rfl ?_
        refine am_E.callF rfl (by decide) (axX1_sunnySide (by decide) rfl) ?_
        refine am_E.go (n := 0) rfl ?_
        obtain ⟨q3, hq, h⟩ := am_bindI h
        refine am_E.callF rfl (by decide) (axX4_looksBehind (by decide) hq) ?_
        refine am_E.go (n := 2) rfl ?_
        refine am_E.brk rfl (fun hp => ?_) (fun hp => ?_)
        · have h := (if_pos hp).symm.trans h
          refine am_E.go (n := 1) rfl ?_
          refine am_E.less (ls0 := [_, .retAddr 0, _, _, _, _, .retAddr 0]) ?_ ⟨Or.inl rfl, Or.inl rfl, Or.inl rfl, Or.inl rfl, Or.inl rfl, Or.inl rfl, Or.inr ⟨rfl, rfl⟩, trivial⟩
          exact ih (by decide) h
        · have h := (if_neg hp).symm.trans h
          refine am_E.go (n := 5) rfl ?_
          refine am_E.less (ls0 := [_, .retAddr 0, _, _, _, _, .retAddr 0]) ?_ ⟨Or.inl rfl, Or.inl rfl, Or.inl rfl, Or.inl rfl, Or.inl rfl, Or.inl rfl, Or.inr ⟨rfl, rfl⟩, trivial⟩
          exact ih (by decide) h
set_option maxHeartbeats 4000000 in
set_option maxRecDepth 100000 in
theorem axX4_worstHour {I : Nat → Nat → Int32} {J : Nat → Nat → Int64} {g0 : Nat} {a1 : Int32} {a2 : Int32} {r : Int32} (hg0 : dm_b g0) (h : DX4_worstHour I g0 a1 a2 = some r) : am_F 4 nX4_worstHour [.ref g0, .int a1, .int a2, .retAddr 0, .retAddr 0, .retAddr 0, .retAddr 0] (TX, I, J, RX) (some (.int r)) (TX, I, J, RX) := by
  unfold DX4_worstHour at h
  unfold am_F
  unfold dm_b at hg0
  rcases hg0 with rfl | rfl | rfl
  all_goals
    refine am_E.go (n := 3) rfl ?_
    refine am_E.callF rfl (by decide) (axX1_sunnySide (by decide) rfl) ?_
    refine am_E.go (n := 0) rfl ?_
    obtain ⟨q1, hq, h⟩ := am_bindI h
    refine am_E.callF rfl (by decide) (axX4_looksBehind (by decide) hq) ?_
    refine am_E.go (n := 4) rfl ?_
    refine am_E.less (ls0 := [_, .retAddr 0, _, _, _, _, .retAddr 0]) ?_ ⟨Or.inl rfl, Or.inr ⟨rfl, rfl⟩, Or.inl rfl, Or.inl rfl, Or.inl rfl, Or.inl rfl, Or.inl rfl, trivial⟩
    exact (alX4_worstHour am_FU) (by decide) h
def LX4_looksTogether : Nat → (Nat → Nat → Int32) → Nat → Int32 → Int32 → Int32 → Int32 → Option Int32
  | 0, _, _, _, _, _, _ => none
  | n + 1, I, g0, x1, x3, x4, x5 =>
    if x3 < x5 then
      some x4
    else
      (DX4_looksBehind I g0 x1 x5).bind fun q2 =>
      LX4_looksTogether n I g0 x1 x3 ((x4 + q2)) ((x5 + (1 : Int32)))
def DX4_looksTogether (I : Nat → Nat → Int32) (g0 : Nat) (a1 : Int32) (a2 : Int32) (a3 : Int32) : Option Int32 :=
  LX4_looksTogether am_FU I g0 a1 a3 ((0 : Int32)) a2
set_option maxHeartbeats 4000000 in
set_option maxRecDepth 100000 in
theorem alX4_looksTogether : ∀ (n : Nat), ∀ {I : Nat → Nat → Int32} {J : Nat → Nat → Int64} {g0 : Nat} {x1 : Int32} {x3 : Int32} {x4 : Int32} {x5 : Int32} {r : Int32}, dm_b g0 → LX4_looksTogether n I g0 x1 x3 x4 x5 = some r → am_E 4 nX4_looksTogether (6, [.ref g0, .int x1, .retAddr 0, .int x3, .int x4, .int x5], [], (TX, I, J, RX)) (fun v M' => v = some (.int r) ∧ M' = (TX, I, J, RX)) := by
  intro n
  induction n with
  | zero => intros; contradiction
  | succ n ih =>
    intro I J g0 x1 x3 x4 x5 r hg0 h
    simp only [LX4_looksTogether] at h
    unfold dm_b at hg0
    rcases hg0 with rfl | rfl | rfl
    all_goals
      refine am_E.go (n := 1) rfl ?_
      refine am_E.brk rfl (fun hp => ?_) (fun hp => ?_)
      · have h := (if_pos hp).symm.trans h
        refine am_E.go (n := 0) rfl ?_
        cases h
        exact am_E.ret rfl ⟨rfl, rfl⟩
      · have h := (if_neg hp).symm.trans h
        refine am_E.go (n := 3) rfl ?_
        obtain ⟨q2, hq, h⟩ := am_bindI h
        refine am_E.callF rfl (by decide) (axX4_looksBehind (by decide) hq) ?_
        refine am_E.go (n := 3) rfl ?_
        exact ih (by decide) h
set_option maxHeartbeats 4000000 in
set_option maxRecDepth 100000 in
theorem axX4_looksTogether {I : Nat → Nat → Int32} {J : Nat → Nat → Int64} {g0 : Nat} {a1 : Int32} {a2 : Int32} {a3 : Int32} {r : Int32} (hg0 : dm_b g0) (h : DX4_looksTogether I g0 a1 a2 a3 = some r) : am_F 4 nX4_looksTogether [.ref g0, .int a1, .int a2, .int a3, .retAddr 0, .retAddr 0] (TX, I, J, RX) (some (.int r)) (TX, I, J, RX) := by
  unfold DX4_looksTogether at h
  unfold am_F
  unfold dm_b at hg0
  rcases hg0 with rfl | rfl | rfl
  all_goals
    refine am_E.go (n := 3) rfl ?_
    refine am_E.less (ls0 := [_, _, .retAddr 0, _, _, _]) ?_ ⟨Or.inl rfl, Or.inl rfl, Or.inr ⟨rfl, rfl⟩, Or.inl rfl, Or.inl rfl, Or.inl rfl, trivial⟩
    exact (alX4_looksTogether am_FU) (by decide) h
def LX4_bestSide : Nat → (Nat → Nat → Int32) → Nat → Int32 → Int32 → Int32 → Int32 → Int32 → Option Int32
  | 0, _, _, _, _, _, _, _ => none
  | n + 1, I, g0, x1, x2, x3, x4, x5 =>
    if (3 : Int32) ≤ x5 then
      some x3
    else
      (DX4_looksTogether I g0 x5 x1 x2).bind fun q3 =>
      if q3 ≤ x4 then
        LX4_bestSide n I g0 x1 x2 x3 x4 ((x5 + (1 : Int32)))
      else
        LX4_bestSide n I g0 x1 x2 x5 q3 ((x5 + (1 : Int32)))
def DX4_bestSide (I : Nat → Nat → Int32) (g0 : Nat) (a1 : Int32) (a2 : Int32) : Option Int32 :=
  (DX4_looksTogether I g0 ((0 : Int32)) a1 a2).bind fun q1 =>
  LX4_bestSide am_FU I g0 a1 a2 ((0 : Int32)) q1 ((1 : Int32))
set_option maxHeartbeats 4000000 in
set_option maxRecDepth 100000 in
theorem alX4_bestSide : ∀ (n : Nat), ∀ {I : Nat → Nat → Int32} {J : Nat → Nat → Int64} {g0 : Nat} {x1 : Int32} {x2 : Int32} {x3 : Int32} {x4 : Int32} {x5 : Int32} {r : Int32}, dm_b g0 → LX4_bestSide n I g0 x1 x2 x3 x4 x5 = some r → am_E 5 nX4_bestSide (14, [.ref g0, .int x1, .int x2, .int x3, .int x4, .int x5, .retAddr 0], [], (TX, I, J, RX)) (fun v M' => v = some (.int r) ∧ M' = (TX, I, J, RX)) := by
  intro n
  induction n with
  | zero => intros; contradiction
  | succ n ih =>
    intro I J g0 x1 x2 x3 x4 x5 r hg0 h
    simp only [LX4_bestSide] at h
    unfold dm_b at hg0
    rcases hg0 with rfl | rfl | rfl
    all_goals
      refine am_E.go (n := 1) rfl ?_
      refine am_E.brk rfl (fun hp => ?_) (fun hp => ?_)
      · have h := (if_pos hp).symm.trans h
        refine am_E.go (n := 0) rfl ?_
        cases h
        exact am_E.ret rfl ⟨rfl, rfl⟩
      · have h := (if_neg hp).symm.trans h
        refine am_E.go (n := 3) rfl ?_
        obtain ⟨q3, hq, h⟩ := am_bindI h
        refine am_E.callF rfl (by decide) (axX4_looksTogether (by decide) hq) ?_
        refine am_E.go (n := 2) rfl ?_
        refine am_E.brk rfl (fun hp => ?_) (fun hp => ?_)
        · have h := (if_pos hp).symm.trans h
          refine am_E.go (n := 1) rfl ?_
          refine am_E.less (ls0 := [_, _, _, _, _, _, .retAddr 0]) ?_ ⟨Or.inl rfl, Or.inl rfl, Or.inl rfl, Or.inl rfl, Or.inl rfl, Or.inl rfl, Or.inr ⟨rfl, rfl⟩, trivial⟩
          exact ih (by decide) h
        · have h := (if_neg hp).symm.trans h
          refine am_E.go (n := 5) rfl ?_
          refine am_E.less (ls0 := [_, _, _, _, _, _, .retAddr 0]) ?_ ⟨Or.inl rfl, Or.inl rfl, Or.inl rfl, Or.inl rfl, Or.inl rfl, Or.inl rfl, Or.inr ⟨rfl, rfl⟩, trivial⟩
          exact ih (by decide) h
set_option maxHeartbeats 4000000 in
set_option maxRecDepth 100000 in
theorem axX4_bestSide {I : Nat → Nat → Int32} {J : Nat → Nat → Int64} {g0 : Nat} {a1 : Int32} {a2 : Int32} {r : Int32} (hg0 : dm_b g0) (h : DX4_bestSide I g0 a1 a2 = some r) : am_F 5 nX4_bestSide [.ref g0, .int a1, .int a2, .retAddr 0, .retAddr 0, .retAddr 0, .retAddr 0] (TX, I, J, RX) (some (.int r)) (TX, I, J, RX) := by
  unfold DX4_bestSide at h
  unfold am_F
  unfold dm_b at hg0
  rcases hg0 with rfl | rfl | rfl
  all_goals
    refine am_E.go (n := 5) rfl ?_
    obtain ⟨q1, hq, h⟩ := am_bindI h
    refine am_E.callF rfl (by decide) (axX4_looksTogether (by decide) hq) ?_
    refine am_E.go (n := 2) rfl ?_
    exact (alX4_bestSide am_FU) (by decide) h
def LX4_worthLaidNow : Nat → (Nat → Nat → Int32) → Nat → Int32 → Int32 → Int32 → Int32 → Int32 → Int32 → Int32 → Option Int32
  | 0, _, _, _, _, _, _, _, _, _ => none
  | n + 1, I, g0, x1, x2, x4, x5, x6, x7, x8 =>
    if x4 < x8 then
      if ¬ x5 = 0 then
        some x7
      else
        some x6
    else
      (DX1_kindOf I g0 x1).bind fun q7 =>
      (DX1_aOf I g0 x1).bind fun q8 =>
      if x2 = 0 then
        if x2 = 0 then
          (DX2_freshness q7 q8 ((0 : Int32)) x8 ((0 : Int32))).bind fun q9 =>
          LX4_worthLaidNow n I g0 x1 x2 x4 x5 ((x6 + q9)) ((if q9 < x7 then q9 else x7)) ((x8 + (1 : Int32)))
        else
          (DX2_freshness q7 q8 ((0 : Int32)) ((0 : Int32)) ((0 : Int32))).bind fun q10 =>
          LX4_worthLaidNow n I g0 x1 x2 x4 x5 ((x6 + q10)) ((if q10 < x7 then q10 else x7)) ((x8 + (1 : Int32)))
      else
        if x2 = 0 then
          (DX2_freshness q7 q8 x8 x8 ((0 : Int32))).bind fun q11 =>
          LX4_worthLaidNow n I g0 x1 x2 x4 x5 ((x6 + q11)) ((if q11 < x7 then q11 else x7)) ((x8 + (1 : Int32)))
        else
          (DX2_freshness q7 q8 x8 ((0 : Int32)) ((0 : Int32))).bind fun q12 =>
          LX4_worthLaidNow n I g0 x1 x2 x4 x5 ((x6 + q12)) ((if q12 < x7 then q12 else x7)) ((x8 + (1 : Int32)))
def DX4_worthLaidNow (I : Nat → Nat → Int32) (g0 : Nat) (a1 : Int32) (a2 : Int32) (a3 : Int32) (a4 : Int32) (a5 : Int32) : Option Int32 :=
  LX4_worthLaidNow am_FU I g0 a1 a2 a4 a5 ((0 : Int32)) ((9 : Int32)) a3
set_option maxHeartbeats 4000000 in
set_option maxRecDepth 100000 in
theorem alX4_worthLaidNow : ∀ (n : Nat), ∀ {I : Nat → Nat → Int32} {J : Nat → Nat → Int64} {g0 : Nat} {x1 : Int32} {x2 : Int32} {x4 : Int32} {x5 : Int32} {x6 : Int32} {x7 : Int32} {x8 : Int32} {r : Int32}, dm_b g0 → LX4_worthLaidNow n I g0 x1 x2 x4 x5 x6 x7 x8 = some r → am_E 2 nX4_worthLaidNow (10, [.ref g0, .int x1, .int x2, .retAddr 0, .int x4, .int x5, .int x6, .int x7, .int x8, .retAddr 0], [], (TX, I, J, RX)) (fun v M' => v = some (.int r) ∧ M' = (TX, I, J, RX)) := by
  intro n
  induction n with
  | zero => intros; contradiction
  | succ n ih =>
    intro I J g0 x1 x2 x4 x5 x6 x7 x8 r hg0 h
    simp only [LX4_worthLaidNow] at h
    unfold dm_b at hg0
    rcases hg0 with rfl | rfl | rfl
    all_goals
      refine am_E.go (n := 1) rfl ?_
      refine am_E.brk rfl (fun hp => ?_) (fun hp => ?_)
      · have h := (if_pos hp).symm.trans h
        refine am_E.go (n := 0) rfl ?_
        refine am_E.brk rfl (fun hp => ?_) (fun hp => ?_)
        · have h := (if_pos hp).symm.trans h
          refine am_E.go (n := 0) rfl ?_
          cases h
          exact am_E.ret rfl ⟨rfl, rfl⟩
        · have h := (if_neg hp).symm.trans h
          refine am_E.go (n := 1) rfl ?_
          cases h
          exact am_E.ret rfl ⟨rfl, rfl⟩
      · have h := (if_neg hp).symm.trans h
        refine am_E.go (n := 1) rfl ?_
        obtain ⟨q7, hq, h⟩ := am_bindI h
        refine am_E.callF rfl (by decide) (axX1_kindOf (by decide) hq) ?_
        refine am_E.go (n := 1) rfl ?_
        obtain ⟨q8, hq, h⟩ := am_bindI h
        refine am_E.callF rfl (by decide) (axX1_aOf (by decide) hq) ?_
        refine am_E.go (n := 0) rfl ?_
        refine am_E.brk rfl (fun hp => ?_) (fun hp => ?_)
        · have h := (if_pos hp).symm.trans h
          refine am_E.go (n := 1) rfl ?_
          refine am_E.brk rfl (fun hp => ?_) (fun hp => ?_)
          · have h := (if_pos hp).symm.trans h
            refine am_E.go (n := 1) rfl ?_
            obtain ⟨q9, hq, h⟩ := am_bindI h
            refine am_E.callF rfl (by decide) (axX2_freshness hq) ?_
            refine am_E.go (n := 6) rfl ?_
            refine am_E.step rfl ?_
            refine am_E.go (n := 2) rfl ?_
            refine am_E.less (ls0 := [_, _, _, .retAddr 0, _, _, _, _, _, .retAddr 0]) ?_ ⟨Or.inl rfl, Or.inl rfl, Or.inl rfl, Or.inl rfl, Or.inl rfl, Or.inl rfl, Or.inl rfl, Or.inl rfl, Or.inl rfl, Or.inr ⟨rfl, rfl⟩, trivial⟩
            exact ih (by decide) h
          · have h := (if_neg hp).symm.trans h
            refine am_E.go (n := 2) rfl ?_
            obtain ⟨q10, hq, h⟩ := am_bindI h
            refine am_E.callF rfl (by decide) (axX2_freshness hq) ?_
            refine am_E.go (n := 6) rfl ?_
            refine am_E.step rfl ?_
            refine am_E.go (n := 2) rfl ?_
            refine am_E.less (ls0 := [_, _, _, .retAddr 0, _, _, _, _, _, .retAddr 0]) ?_ ⟨Or.inl rfl, Or.inl rfl, Or.inl rfl, Or.inl rfl, Or.inl rfl, Or.inl rfl, Or.inl rfl, Or.inl rfl, Or.inl rfl, Or.inr ⟨rfl, rfl⟩, trivial⟩
            exact ih (by decide) h
        · have h := (if_neg hp).symm.trans h
          refine am_E.go (n := 2) rfl ?_
          refine am_E.brk rfl (fun hp => ?_) (fun hp => ?_)
          · have h := (if_pos hp).symm.trans h
            refine am_E.go (n := 1) rfl ?_
            obtain ⟨q11, hq, h⟩ := am_bindI h
            refine am_E.callF rfl (by decide) (axX2_freshness hq) ?_
            refine am_E.go (n := 6) rfl ?_
            refine am_E.step rfl ?_
            refine am_E.go (n := 2) rfl ?_
            refine am_E.less (ls0 := [_, _, _, .retAddr 0, _, _, _, _, _, .retAddr 0]) ?_ ⟨Or.inl rfl, Or.inl rfl, Or.inl rfl, Or.inl rfl, Or.inl rfl, Or.inl rfl, Or.inl rfl, Or.inl rfl, Or.inl rfl, Or.inr ⟨rfl, rfl⟩, trivial⟩
            exact ih (by decide) h
          · have h := (if_neg hp).symm.trans h
            refine am_E.go (n := 2) rfl ?_
            obtain ⟨q12, hq, h⟩ := am_bindI h
            refine am_E.callF rfl (by decide) (axX2_freshness hq) ?_
            refine am_E.go (n := 6) rfl ?_
            refine am_E.step rfl ?_
            refine am_E.go (n := 2) rfl ?_
            refine am_E.less (ls0 := [_, _, _, .retAddr 0, _, _, _, _, _, .retAddr 0]) ?_ ⟨Or.inl rfl, Or.inl rfl, Or.inl rfl, Or.inl rfl, Or.inl rfl, Or.inl rfl, Or.inl rfl, Or.inl rfl, Or.inl rfl, Or.inr ⟨rfl, rfl⟩, trivial⟩
            exact ih (by decide) h
set_option maxHeartbeats 4000000 in
set_option maxRecDepth 100000 in
theorem axX4_worthLaidNow {I : Nat → Nat → Int32} {J : Nat → Nat → Int64} {g0 : Nat} {a1 : Int32} {a2 : Int32} {a3 : Int32} {a4 : Int32} {a5 : Int32} {r : Int32} (hg0 : dm_b g0) (h : DX4_worthLaidNow I g0 a1 a2 a3 a4 a5 = some r) : am_F 2 nX4_worthLaidNow [.ref g0, .int a1, .int a2, .int a3, .int a4, .int a5, .retAddr 0, .retAddr 0, .retAddr 0, .retAddr 0] (TX, I, J, RX) (some (.int r)) (TX, I, J, RX) := by
  unfold DX4_worthLaidNow at h
  unfold am_F
  unfold dm_b at hg0
  rcases hg0 with rfl | rfl | rfl
  all_goals
    refine am_E.go (n := 5) rfl ?_
    refine am_E.less (ls0 := [_, _, _, .retAddr 0, _, _, _, _, _, .retAddr 0]) ?_ ⟨Or.inl rfl, Or.inl rfl, Or.inl rfl, Or.inr ⟨rfl, rfl⟩, Or.inl rfl, Or.inl rfl, Or.inl rfl, Or.inl rfl, Or.inl rfl, Or.inl rfl, trivial⟩
    exact (alX4_worthLaidNow am_FU) (by decide) h
def LX4_bestStuff : Nat → (Nat → Nat → Int32) → Nat → Int32 → Int32 → Int32 → Int32 → Int32 → Int32 → Int32 → Option Int32
  | 0, _, _, _, _, _, _, _, _, _ => none
  | n + 1, I, g0, x1, x2, x3, x4, x5, x6, x7 =>
    if (DX1_stuffCount I g0) ≤ x7 then
      some x5
    else
      (DX1_colourOf I g0 x7).bind fun q5 =>
      (DX1_drawnAt I g0 x1).bind fun q6 =>
      if q5 = q6 then
        (DX1_isInSun x1 ((DX1_sunnySide I g0))).bind fun q7 =>
        (DX4_worthLaidNow I g0 x7 q7 x2 x3 x4).bind fun q8 =>
        if q8 ≤ x6 then
          LX4_bestStuff n I g0 x1 x2 x3 x4 x5 x6 ((x7 + (1 : Int32)))
        else
          LX4_bestStuff n I g0 x1 x2 x3 x4 x7 q8 ((x7 + (1 : Int32)))
      else
        LX4_bestStuff n I g0 x1 x2 x3 x4 x5 x6 ((x7 + (1 : Int32)))
def DX4_bestStuff (I : Nat → Nat → Int32) (g0 : Nat) (a1 : Int32) (a2 : Int32) (a3 : Int32) (a4 : Int32) : Option Int32 :=
  LX4_bestStuff am_FU I g0 a1 a2 a3 a4 ((-1 : Int32)) ((-1 : Int32)) ((0 : Int32))
set_option maxHeartbeats 4000000 in
set_option maxRecDepth 100000 in
theorem alX4_bestStuff : ∀ (n : Nat), ∀ {I : Nat → Nat → Int32} {J : Nat → Nat → Int64} {g0 : Nat} {x1 : Int32} {x2 : Int32} {x3 : Int32} {x4 : Int32} {x5 : Int32} {x6 : Int32} {x7 : Int32} {r : Int32}, dm_b g0 → LX4_bestStuff n I g0 x1 x2 x3 x4 x5 x6 x7 = some r → am_E 3 nX4_bestStuff (9, [.ref g0, .int x1, .int x2, .int x3, .int x4, .int x5, .int x6, .int x7, .retAddr 0, .retAddr 0], [], (TX, I, J, RX)) (fun v M' => v = some (.int r) ∧ M' = (TX, I, J, RX)) := by
  intro n
  induction n with
  | zero => intros; contradiction
  | succ n ih =>
    intro I J g0 x1 x2 x3 x4 x5 x6 x7 r hg0 h
    simp only [LX4_bestStuff] at h
    unfold dm_b at hg0
    rcases hg0 with rfl | rfl | rfl
    all_goals
      refine am_E.go (n := 1) rfl ?_
      refine am_E.callF rfl (by decide) (axX1_stuffCount (by decide) rfl) ?_
      refine am_E.brk rfl (fun hp => ?_) (fun hp => ?_)
      · have h := (if_pos hp).symm.trans h
        refine am_E.go (n := 0) rfl ?_
        cases h
        exact am_E.ret rfl ⟨rfl, rfl⟩
      · have h := (if_neg hp).symm.trans h
        refine am_E.go (n := 1) rfl ?_
        obtain ⟨q5, hq, h⟩ := am_bindI h
        refine am_E.callF rfl (by decide) (axX1_colourOf (by decide) hq) ?_
        refine am_E.go (n := 1) rfl ?_
        obtain ⟨q6, hq, h⟩ := am_bindI h
        refine am_E.callF rfl (by decide) (axX1_drawnAt (by decide) hq) ?_
        refine am_E.brk rfl (fun hp => ?_) (fun hp => ?_)
        · have h := (if_pos hp).symm.trans h
          refine am_E.go (n := 1) rfl ?_
          refine am_E.callF rfl (by decide) (axX1_sunnySide (by decide) rfl) ?_
          obtain ⟨q7, hq, h⟩ := am_bindI h
          refine am_E.callF rfl (by decide) (axX1_isInSun hq) ?_
          refine am_E.go (n := 6) rfl ?_
          obtain ⟨q8, hq, h⟩ := am_bindI h
          refine am_E.callF rfl (by decide) (axX4_worthLaidNow (by decide) hq) ?_
          refine am_E.go (n := 2) rfl ?_
          refine am_E.brk rfl (fun hp => ?_) (fun hp => ?_)
          · have h := (if_pos hp).symm.trans h
            refine am_E.go (n := 1) rfl ?_
            refine am_E.less (ls0 := [_, _, _, _, _, _, _, _, .retAddr 0, .retAddr 0]) ?_ ⟨Or.inl rfl, Or.inl rfl, Or.inl rfl, Or.inl rfl, Or.inl rfl, Or.inl rfl, Or.inl rfl, Or.inl rfl, Or.inr ⟨rfl, rfl⟩, Or.inr ⟨rfl, rfl⟩, trivial⟩
            exact ih (by decide) h
          · have h := (if_neg hp).symm.trans h
            refine am_E.go (n := 5) rfl ?_
            refine am_E.less (ls0 := [_, _, _, _, _, _, _, _, .retAddr 0, .retAddr 0]) ?_ ⟨Or.inl rfl, Or.inl rfl, Or.inl rfl, Or.inl rfl, Or.inl rfl, Or.inl rfl, Or.inl rfl, Or.inl rfl, Or.inr ⟨rfl, rfl⟩, Or.inr ⟨rfl, rfl⟩, trivial⟩
            exact ih (by decide) h
        · have h := (if_neg hp).symm.trans h
          refine am_E.go (n := 2) rfl ?_
          exact ih (by decide) h
set_option maxHeartbeats 4000000 in
set_option maxRecDepth 100000 in
theorem axX4_bestStuff {I : Nat → Nat → Int32} {J : Nat → Nat → Int64} {g0 : Nat} {a1 : Int32} {a2 : Int32} {a3 : Int32} {a4 : Int32} {r : Int32} (hg0 : dm_b g0) (h : DX4_bestStuff I g0 a1 a2 a3 a4 = some r) : am_F 3 nX4_bestStuff [.ref g0, .int a1, .int a2, .int a3, .int a4, .retAddr 0, .retAddr 0, .retAddr 0, .retAddr 0, .retAddr 0] (TX, I, J, RX) (some (.int r)) (TX, I, J, RX) := by
  unfold DX4_bestStuff at h
  unfold am_F
  unfold dm_b at hg0
  rcases hg0 with rfl | rfl | rfl
  all_goals
    refine am_E.go (n := 5) rfl ?_
    exact (alX4_bestStuff am_FU) (by decide) h
def LX4_nextCell : Nat → Nat → (Nat → Nat → Int32) → Nat → Int32 → Int32 → Option Int32
  | 0, _, _, _, _, _ => none
  | n + 1, 0, I, g0, x1, x2 =>
    if x1 < 0 then
      some ((-1 : Int32))
    else
      LX4_nextCell n 1 I g0 x1 ((0 : Int32))
  | n + 1, _, I, g0, x1, x2 =>
    if (4 : Int32) ≤ x2 then
      LX4_nextCell n 0 I g0 ((x1 + (-1 : Int32))) 0
    else
      (DX1_plannedAt I g0 (((x1 * (4 : Int32)) + x2))).bind fun q3 =>
      if q3 = (-1 : Int32) then
        LX4_nextCell n 1 I g0 x1 ((x2 + (1 : Int32)))
      else
        (DX1_mayBeLaid I g0 (((x1 * (4 : Int32)) + x2))).bind fun q4 =>
        if q4 = 0 then
          LX4_nextCell n 1 I g0 x1 ((x2 + (1 : Int32)))
        else
          some (((x1 * (4 : Int32)) + x2))
def DX4_nextCell (I : Nat → Nat → Int32) (g0 : Nat) : Option Int32 :=
  LX4_nextCell am_FU 0 I g0 ((5 : Int32)) 0
set_option maxHeartbeats 4000000 in
set_option maxRecDepth 100000 in
theorem alX4_nextCell : ∀ (n : Nat), (∀ {I : Nat → Nat → Int32} {J : Nat → Nat → Int64} {g0 : Nat} {x1 : Int32} {x2 : Int32} {r : Int32}, dm_b g0 → LX4_nextCell n 0 I g0 x1 x2 = some r → am_E 3 nX4_nextCell (2, [.ref g0, .int x1, .retAddr 0, .retAddr 0], [], (TX, I, J, RX)) (fun v M' => v = some (.int r) ∧ M' = (TX, I, J, RX))) ∧
    (∀ {I : Nat → Nat → Int32} {J : Nat → Nat → Int64} {g0 : Nat} {x1 : Int32} {x2 : Int32} {r : Int32}, dm_b g0 → LX4_nextCell n 1 I g0 x1 x2 = some r → am_E 3 nX4_nextCell (8, [.ref g0, .int x1, .int x2, .retAddr 0], [], (TX, I, J, RX)) (fun v M' => v = some (.int r) ∧ M' = (TX, I, J, RX))) := by
  intro n
  induction n with
  | zero => exact ⟨by intros; contradiction, by intros; contradiction⟩
  | succ n ih =>
    refine ⟨?_, ?_⟩
    · intro I J g0 x1 x2 r hg0 h
      simp only [LX4_nextCell] at h
      unfold dm_b at hg0
      rcases hg0 with rfl | rfl | rfl
      all_goals
        refine am_E.go (n := 0) rfl ?_
        refine am_E.brk rfl (fun hp => ?_) (fun hp => ?_)
        · have h := (if_pos hp).symm.trans h
          refine am_E.go (n := 0) rfl ?_
          cases h
          exact am_E.ret rfl ⟨rfl, rfl⟩
        · have h := (if_neg hp).symm.trans h
          refine am_E.go (n := 1) rfl ?_
          exact ih.2 (by decide) h
    · intro I J g0 x1 x2 r hg0 h
      simp only [LX4_nextCell] at h
      unfold dm_b at hg0
      rcases hg0 with rfl | rfl | rfl
      all_goals
        refine am_E.go (n := 1) rfl ?_
        refine am_E.brk rfl (fun hp => ?_) (fun hp => ?_)
        · have h := (if_pos hp).symm.trans h
          refine am_E.go (n := 1) rfl ?_
          refine am_E.less (ls0 := [_, _, .retAddr 0, .retAddr 0]) ?_ ⟨Or.inl rfl, Or.inl rfl, Or.inr ⟨rfl, rfl⟩, Or.inl rfl, trivial⟩
          exact ih.1 (by decide) h
        · have h := (if_neg hp).symm.trans h
          refine am_E.go (n := 7) rfl ?_
          obtain ⟨q3, hq, h⟩ := am_bindI h
          refine am_E.callF rfl (by decide) (axX1_plannedAt (by decide) hq) ?_
          refine am_E.go (n := 0) rfl ?_
          refine am_E.brk rfl (fun hp => ?_) (fun hp => ?_)
          · have h := (if_pos hp).symm.trans h
            refine am_E.go (n := 1) rfl ?_
            refine am_E.less (ls0 := [_, _, _, .retAddr 0]) ?_ ⟨Or.inl rfl, Or.inl rfl, Or.inl rfl, Or.inr ⟨rfl, rfl⟩, trivial⟩
            exact ih.2 (by decide) h
          · have h := (if_neg hp).symm.trans h
            refine am_E.go (n := 1) rfl ?_
            obtain ⟨q4, hq, h⟩ := am_bindI h
            refine am_E.callF rfl (by decide) (axX1_mayBeLaid (by decide) hq) ?_
            refine am_E.brk rfl (fun hp => ?_) (fun hp => ?_)
            · have h := (if_pos hp).symm.trans h
              refine am_E.go (n := 1) rfl ?_
              refine am_E.less (ls0 := [_, _, _, .retAddr 0]) ?_ ⟨Or.inl rfl, Or.inl rfl, Or.inl rfl, Or.inr ⟨rfl, rfl⟩, trivial⟩
              exact ih.2 (by decide) h
            · have h := (if_neg hp).symm.trans h
              refine am_E.go (n := 0) rfl ?_
              cases h
              exact am_E.ret rfl ⟨rfl, rfl⟩
set_option maxHeartbeats 4000000 in
set_option maxRecDepth 100000 in
theorem axX4_nextCell {I : Nat → Nat → Int32} {J : Nat → Nat → Int64} {g0 : Nat} {r : Int32} (hg0 : dm_b g0) (h : DX4_nextCell I g0 = some r) : am_F 3 nX4_nextCell [.ref g0, .retAddr 0, .retAddr 0, .retAddr 0] (TX, I, J, RX) (some (.int r)) (TX, I, J, RX) := by
  unfold DX4_nextCell at h
  unfold am_F
  unfold dm_b at hg0
  rcases hg0 with rfl | rfl | rfl
  all_goals
    refine am_E.go (n := 1) rfl ?_
    exact (alX4_nextCell am_FU).1 (by decide) h
def LX4_firstDryHour : Nat → (Nat → Nat → Int32) → Nat → Int32 → Int32 → Option Int32
  | 0, _, _, _, _ => none
  | n + 1, I, g0, x1, x2 =>
    if (240 : Int32) < x2 then
      some ((-1 : Int32))
    else
      if ¬ (if (0 : Int32) < (x1 - (DX1_driedByAnHour I g0)) then (x1 - (DX1_driedByAnHour I g0)) else (0 : Int32)) = 0 then
        LX4_firstDryHour n I g0 ((if (0 : Int32) < (x1 - (DX1_driedByAnHour I g0)) then (x1 - (DX1_driedByAnHour I g0)) else (0 : Int32))) ((x2 + (1 : Int32)))
      else
        some x2
def DX4_firstDryHour (I : Nat → Nat → Int32) (g0 : Nat) : Option Int32 :=
  LX4_firstDryHour am_FU I g0 ((DX1_wetness I g0)) ((1 : Int32))
set_option maxHeartbeats 4000000 in
set_option maxRecDepth 100000 in
theorem alX4_firstDryHour : ∀ (n : Nat), ∀ {I : Nat → Nat → Int32} {J : Nat → Nat → Int64} {g0 : Nat} {x1 : Int32} {x2 : Int32} {r : Int32}, dm_b g0 → LX4_firstDryHour n I g0 x1 x2 = some r → am_E 1 nX4_firstDryHour (7, [.ref g0, .int x1, .int x2], [], (TX, I, J, RX)) (fun v M' => v = some (.int r) ∧ M' = (TX, I, J, RX)) := by
  intro n
  induction n with
  | zero => intros; contradiction
  | succ n ih =>
    intro I J g0 x1 x2 r hg0 h
    simp only [LX4_firstDryHour] at h
    unfold dm_b at hg0
    rcases hg0 with rfl | rfl | rfl
    all_goals
      refine am_E.go (n := 1) rfl ?_
      refine am_E.brk rfl (fun hp => ?_) (fun hp => ?_)
      · have h := (if_pos hp).symm.trans h
        refine am_E.go (n := 0) rfl ?_
        cases h
        exact am_E.ret rfl ⟨rfl, rfl⟩
      · have h := (if_neg hp).symm.trans h
        refine am_E.go (n := 2) rfl ?_
        refine am_E.callF rfl (by decide) (axX1_driedByAnHour (by decide) rfl) ?_
        refine am_E.go (n := 0) rfl ?_
        refine am_E.step rfl ?_
        refine am_E.go (n := 1) rfl ?_
        refine am_E.brk rfl (fun hp => ?_) (fun hp => ?_)
        · have h := (if_pos hp).symm.trans h
          refine am_E.go (n := 1) rfl ?_
          exact ih (by decide) h
        · have h := (if_neg hp).symm.trans h
          refine am_E.go (n := 0) rfl ?_
          cases h
          exact am_E.ret rfl ⟨rfl, rfl⟩
set_option maxHeartbeats 4000000 in
set_option maxRecDepth 100000 in
theorem axX4_firstDryHour {I : Nat → Nat → Int32} {J : Nat → Nat → Int64} {g0 : Nat} {r : Int32} (hg0 : dm_b g0) (h : DX4_firstDryHour I g0 = some r) : am_F 1 nX4_firstDryHour [.ref g0, .retAddr 0, .retAddr 0] (TX, I, J, RX) (some (.int r)) (TX, I, J, RX) := by
  unfold DX4_firstDryHour at h
  unfold am_F
  unfold dm_b at hg0
  rcases hg0 with rfl | rfl | rfl
  all_goals
    refine am_E.go (n := 0) rfl ?_
    refine am_E.callF rfl (by decide) (axX1_wetness (by decide) rfl) ?_
    refine am_E.go (n := 2) rfl ?_
    exact (alX4_firstDryHour am_FU) (by decide) h
def LX4_spraysNeeded : Nat → (Nat → Nat → Int32) → Nat → Int32 → Int32 → Int32 → Int32 → Option Int32
  | 0, _, _, _, _, _, _ => none
  | n + 1, I, g0, x1, x2, x3, x4 =>
    if x1 ≤ x4 then
      some x3
    else
      if (DX1_driedByAnHour I g0) < x2 then
        LX4_spraysNeeded n I g0 x1 ((x2 - (DX1_driedByAnHour I g0))) x3 ((x4 + (1 : Int32)))
      else
        LX4_spraysNeeded n I g0 x1 (((DX1_wetBySpray x2) - (DX1_driedByAnHour I g0))) ((x3 + (1 : Int32))) ((x4 + (1 : Int32)))
def DX4_spraysNeeded (I : Nat → Nat → Int32) (g0 : Nat) (a1 : Int32) : Option Int32 :=
  LX4_spraysNeeded am_FU I g0 a1 ((DX1_wetness I g0)) ((0 : Int32)) ((0 : Int32))
set_option maxHeartbeats 4000000 in
set_option maxRecDepth 100000 in
theorem alX4_spraysNeeded : ∀ (n : Nat), ∀ {I : Nat → Nat → Int32} {J : Nat → Nat → Int64} {g0 : Nat} {x1 : Int32} {x2 : Int32} {x3 : Int32} {x4 : Int32} {r : Int32}, dm_b g0 → LX4_spraysNeeded n I g0 x1 x2 x3 x4 = some r → am_E 1 nX4_spraysNeeded (10, [.ref g0, .int x1, .int x2, .int x3, .int x4], [], (TX, I, J, RX)) (fun v M' => v = some (.int r) ∧ M' = (TX, I, J, RX)) := by
  intro n
  induction n with
  | zero => intros; contradiction
  | succ n ih =>
    intro I J g0 x1 x2 x3 x4 r hg0 h
    simp only [LX4_spraysNeeded] at h
    unfold dm_b at hg0
    rcases hg0 with rfl | rfl | rfl
    all_goals
      refine am_E.go (n := 1) rfl ?_
      refine am_E.brk rfl (fun hp => ?_) (fun hp => ?_)
      · have h := (if_pos hp).symm.trans h
        refine am_E.go (n := 0) rfl ?_
        cases h
        exact am_E.ret rfl ⟨rfl, rfl⟩
      · have h := (if_neg hp).symm.trans h
        refine am_E.go (n := 1) rfl ?_
        refine am_E.callF rfl (by decide) (axX1_driedByAnHour (by decide) rfl) ?_
        refine am_E.brk rfl (fun hp => ?_) (fun hp => ?_)
        · have h := (if_pos hp).symm.trans h
          refine am_E.go (n := 1) rfl ?_
          refine am_E.callF rfl (by decide) (axX1_driedByAnHour (by decide) rfl) ?_
          refine am_E.go (n := 3) rfl ?_
          exact ih (by decide) h
        · have h := (if_neg hp).symm.trans h
          refine am_E.go (n := 0) rfl ?_
          refine am_E.callF rfl (by decide) (axX1_wetBySpray rfl) ?_
          refine am_E.go (n := 3) rfl ?_
          refine am_E.callF rfl (by decide) (axX1_driedByAnHour (by decide) rfl) ?_
          refine am_E.go (n := 3) rfl ?_
          exact ih (by decide) h
set_option maxHeartbeats 4000000 in
set_option maxRecDepth 100000 in
theorem axX4_spraysNeeded {I : Nat → Nat → Int32} {J : Nat → Nat → Int64} {g0 : Nat} {a1 : Int32} {r : Int32} (hg0 : dm_b g0) (h : DX4_spraysNeeded I g0 a1 = some r) : am_F 1 nX4_spraysNeeded [.ref g0, .int a1, .retAddr 0, .retAddr 0, .retAddr 0] (TX, I, J, RX) (some (.int r)) (TX, I, J, RX) := by
  unfold DX4_spraysNeeded at h
  unfold am_F
  unfold dm_b at hg0
  rcases hg0 with rfl | rfl | rfl
  all_goals
    refine am_E.go (n := 0) rfl ?_
    refine am_E.callF rfl (by decide) (axX1_wetness (by decide) rfl) ?_
    refine am_E.go (n := 4) rfl ?_
    exact (alX4_spraysNeeded am_FU) (by decide) h
def LX4_stuffsAsFresh : Nat → (Nat → Nat → Int32) → Nat → Int32 → Int32 → Int32 → Int32 → Int32 → Int32 → Option Int32
  | 0, _, _, _, _, _, _, _, _ => none
  | n + 1, I, g0, x1, x2, x3, x4, x5, x6 =>
    if (DX1_stuffCount I g0) ≤ x6 then
      some x5
    else
      (DX1_kindOf I g0 x6).bind fun q4 =>
      (DX1_aOf I g0 x6).bind fun q5 =>
      (DX2_freshness q4 q5 x1 x2 x3).bind fun q6 =>
      if ¬ q6 = x4 then
        LX4_stuffsAsFresh n I g0 x1 x2 x3 x4 x5 ((x6 + (1 : Int32)))
      else
        LX4_stuffsAsFresh n I g0 x1 x2 x3 x4 ((x5 ||| ((1 : Int32) <<< (x6 &&& 31)))) ((x6 + (1 : Int32)))
def DX4_stuffsAsFresh (I : Nat → Nat → Int32) (g0 : Nat) (a1 : Int32) (a2 : Int32) (a3 : Int32) (a4 : Int32) : Option Int32 :=
  LX4_stuffsAsFresh am_FU I g0 a1 a2 a3 a4 ((0 : Int32)) ((0 : Int32))
set_option maxHeartbeats 4000000 in
set_option maxRecDepth 100000 in
theorem alX4_stuffsAsFresh : ∀ (n : Nat), ∀ {I : Nat → Nat → Int32} {J : Nat → Nat → Int64} {g0 : Nat} {x1 : Int32} {x2 : Int32} {x3 : Int32} {x4 : Int32} {x5 : Int32} {x6 : Int32} {r : Int32}, dm_b g0 → LX4_stuffsAsFresh n I g0 x1 x2 x3 x4 x5 x6 = some r → am_E 2 nX4_stuffsAsFresh (6, [.ref g0, .int x1, .int x2, .int x3, .int x4, .int x5, .int x6], [], (TX, I, J, RX)) (fun v M' => v = some (.int r) ∧ M' = (TX, I, J, RX)) := by
  intro n
  induction n with
  | zero => intros; contradiction
  | succ n ih =>
    intro I J g0 x1 x2 x3 x4 x5 x6 r hg0 h
    simp only [LX4_stuffsAsFresh] at h
    unfold dm_b at hg0
    rcases hg0 with rfl | rfl | rfl
    all_goals
      refine am_E.go (n := 1) rfl ?_
      refine am_E.callF rfl (by decide) (axX1_stuffCount (by decide) rfl) ?_
      refine am_E.brk rfl (fun hp => ?_) (fun hp => ?_)
      · have h := (if_pos hp).symm.trans h
        refine am_E.go (n := 0) rfl ?_
        cases h
        exact am_E.ret rfl ⟨rfl, rfl⟩
      · have h := (if_neg hp).symm.trans h
        refine am_E.go (n := 1) rfl ?_
        obtain ⟨q4, hq, h⟩ := am_bindI h
        refine am_E.callF rfl (by decide) (axX1_kindOf (by decide) hq) ?_
        refine am_E.go (n := 1) rfl ?_
        obtain ⟨q5, hq, h⟩ := am_bindI h
        refine am_E.callF rfl (by decide) (axX1_aOf (by decide) hq) ?_
        refine am_E.go (n := 2) rfl ?_
        obtain ⟨q6, hq, h⟩ := am_bindI h
        refine am_E.callF rfl (by decide) (axX2_freshness hq) ?_
        refine am_E.go (n := 0) rfl ?_
        refine am_E.brk rfl (fun hp => ?_) (fun hp => ?_)
        · have h := (if_pos hp).symm.trans h
          refine am_E.go (n := 1) rfl ?_
          exact ih (by decide) h
        · have h := (if_neg hp).symm.trans h
          refine am_E.go (n := 7) rfl ?_
          exact ih (by decide) h
set_option maxHeartbeats 4000000 in
set_option maxRecDepth 100000 in
theorem axX4_stuffsAsFresh {I : Nat → Nat → Int32} {J : Nat → Nat → Int64} {g0 : Nat} {a1 : Int32} {a2 : Int32} {a3 : Int32} {a4 : Int32} {r : Int32} (hg0 : dm_b g0) (h : DX4_stuffsAsFresh I g0 a1 a2 a3 a4 = some r) : am_F 2 nX4_stuffsAsFresh [.ref g0, .int a1, .int a2, .int a3, .int a4, .retAddr 0, .retAddr 0] (TX, I, J, RX) (some (.int r)) (TX, I, J, RX) := by
  unfold DX4_stuffsAsFresh at h
  unfold am_F
  unfold dm_b at hg0
  rcases hg0 with rfl | rfl | rfl
  all_goals
    refine am_E.go (n := 3) rfl ?_
    exact (alX4_stuffsAsFresh am_FU) (by decide) h
def LX4_isAsTold : Nat → (Nat → Nat → Int32) → (Nat → Nat → Int64) → Nat → Nat → Int32 → Int32 → Int32 → Option Int32
  | 0, _, _, _, _, _, _, _ => none
  | n + 1, I, J, g0, g1, x2, x3, x4 =>
    if (24 : Int32) ≤ x4 then
      some ((1 : Int32))
    else
      (DX1_laidAt I g0 x4).bind fun q4 =>
      if ¬ q4 = (-1 : Int32) then
        (DX4_freshBehind I g0 x4 ((DX1_sunnySide I g0)) x2).bind fun q5 =>
        (DX3_toldAt I J g1 x3).bind fun q6 =>
        if q5 = q6 then
          LX4_isAsTold n I J g0 g1 x2 ((x3 + (1 : Int32))) ((x4 + (1 : Int32)))
        else
          some ((0 : Int32))
      else
        LX4_isAsTold n I J g0 g1 x2 x3 ((x4 + (1 : Int32)))
def DX4_isAsTold (I : Nat → Nat → Int32) (J : Nat → Nat → Int64) (g0 : Nat) (g1 : Nat) (a2 : Int32) : Option Int32 :=
  LX4_isAsTold am_FU I J g0 g1 a2 ((0 : Int32)) ((0 : Int32))
set_option maxHeartbeats 4000000 in
set_option maxRecDepth 100000 in
theorem alX4_isAsTold : ∀ (n : Nat), ∀ {I : Nat → Nat → Int32} {J : Nat → Nat → Int64} {g0 : Nat} {g1 : Nat} {x2 : Int32} {x3 : Int32} {x4 : Int32} {r : Int32}, dm_b g0 → dm_s g1 → LX4_isAsTold n I J g0 g1 x2 x3 x4 = some r → am_E 3 nX4_isAsTold (5, [.ref g0, .ref g1, .int x2, .int x3, .int x4], [], (TX, I, J, RX)) (fun v M' => v = some (.int r) ∧ M' = (TX, I, J, RX)) := by
  intro n
  induction n with
  | zero => intros; contradiction
  | succ n ih =>
    intro I J g0 g1 x2 x3 x4 r hg0 hg1 h
    simp only [LX4_isAsTold] at h
    unfold dm_b at hg0
    unfold dm_s at hg1
    rcases hg0 with rfl | rfl | rfl <;> rcases hg1 with rfl | rfl | rfl | rfl | rfl | rfl | rfl | rfl
    all_goals
      refine am_E.go (n := 1) rfl ?_
      refine am_E.brk rfl (fun hp => ?_) (fun hp => ?_)
      · have h := (if_pos hp).symm.trans h
        refine am_E.go (n := 0) rfl ?_
        cases h
        first | exact am_E.ret rfl ⟨rfl, rfl⟩ | exact am_E.retG rfl (by decide) ⟨rfl, rfl⟩
      · have h := (if_neg hp).symm.trans h
        refine am_E.go (n := 1) rfl ?_
        obtain ⟨q4, hq, h⟩ := am_bindI h
        refine am_E.callF rfl (by decide) (axX1_laidAt (by decide) hq) ?_
        refine am_E.go (n := 0) rfl ?_
        refine am_E.brk rfl (fun hp => ?_) (fun hp => ?_)
        · have h := (if_pos hp).symm.trans h
          refine am_E.go (n := 2) rfl ?_
          refine am_E.callF rfl (by decide) (axX1_sunnySide (by decide) rfl) ?_
          refine am_E.go (n := 0) rfl ?_
          obtain ⟨q5, hq, h⟩ := am_bindI h
          refine am_E.callF rfl (by decide) (axX4_freshBehind (by decide) hq) ?_
          refine am_E.go (n := 1) rfl ?_
          obtain ⟨q6, hq, h⟩ := am_bindI h
          refine am_E.callF rfl (by decide) (axX3_toldAt (by decide) hq) ?_
          refine am_E.brk rfl (fun hp => ?_) (fun hp => ?_)
          · have h := (if_pos hp).symm.trans h
            refine am_E.go (n := 2) rfl ?_
            exact ih (by decide) (by decide) h
          · have h := (if_neg hp).symm.trans h
            refine am_E.go (n := 0) rfl ?_
            cases h
            first | exact am_E.ret rfl ⟨rfl, rfl⟩ | exact am_E.retG rfl (by decide) ⟨rfl, rfl⟩
        · have h := (if_neg hp).symm.trans h
          refine am_E.go (n := 2) rfl ?_
          exact ih (by decide) (by decide) h
set_option maxHeartbeats 4000000 in
set_option maxRecDepth 100000 in
theorem axX4_isAsTold {I : Nat → Nat → Int32} {J : Nat → Nat → Int64} {g0 : Nat} {g1 : Nat} {a2 : Int32} {r : Int32} (hg0 : dm_b g0) (hg1 : dm_s g1) (h : DX4_isAsTold I J g0 g1 a2 = some r) : am_F 3 nX4_isAsTold [.ref g0, .ref g1, .int a2, .retAddr 0, .retAddr 0] (TX, I, J, RX) (some (.int r)) (TX, I, J, RX) := by
  unfold DX4_isAsTold at h
  unfold am_F
  unfold dm_b at hg0
  unfold dm_s at hg1
  rcases hg0 with rfl | rfl | rfl <;> rcases hg1 with rfl | rfl | rfl | rfl | rfl | rfl | rfl | rfl
  all_goals
    refine am_E.go (n := 3) rfl ?_
    exact (alX4_isAsTold am_FU) (by decide) (by decide) h
def LX4_hourAsTold : Nat → (Nat → Nat → Int32) → (Nat → Nat → Int64) → Nat → Nat → Int32 → Option Int32
  | 0, _, _, _, _, _ => none
  | n + 1, I, J, g0, g1, x2 =>
    if (240 : Int32) < x2 then
      some ((-1 : Int32))
    else
      (DX4_isAsTold I J g0 g1 x2).bind fun q2 =>
      if q2 = 0 then
        LX4_hourAsTold n I J g0 g1 ((x2 + (1 : Int32)))
      else
        some x2
def DX4_hourAsTold (I : Nat → Nat → Int32) (J : Nat → Nat → Int64) (g0 : Nat) (g1 : Nat) : Option Int32 :=
  LX4_hourAsTold am_FU I J g0 g1 ((0 : Int32))
set_option maxHeartbeats 4000000 in
set_option maxRecDepth 100000 in
theorem alX4_hourAsTold : ∀ (n : Nat), ∀ {I : Nat → Nat → Int32} {J : Nat → Nat → Int64} {g0 : Nat} {g1 : Nat} {x2 : Int32} {r : Int32}, dm_b g0 → dm_s g1 → LX4_hourAsTold n I J g0 g1 x2 = some r → am_E 4 nX4_hourAsTold (2, [.ref g0, .ref g1, .int x2], [], (TX, I, J, RX)) (fun v M' => v = some (.int r) ∧ M' = (TX, I, J, RX)) := by
  intro n
  induction n with
  | zero => intros; contradiction
  | succ n ih =>
    intro I J g0 g1 x2 r hg0 hg1 h
    simp only [LX4_hourAsTold] at h
    unfold dm_b at hg0
    unfold dm_s at hg1
    rcases hg0 with rfl | rfl | rfl <;> rcases hg1 with rfl | rfl | rfl | rfl | rfl | rfl | rfl | rfl
    all_goals
      refine am_E.go (n := 1) rfl ?_
      refine am_E.brk rfl (fun hp => ?_) (fun hp => ?_)
      · have h := (if_pos hp).symm.trans h
        refine am_E.go (n := 0) rfl ?_
        cases h
        exact am_E.ret rfl ⟨rfl, rfl⟩
      · have h := (if_neg hp).symm.trans h
        refine am_E.go (n := 2) rfl ?_
        obtain ⟨q2, hq, h⟩ := am_bindI h
        refine am_E.callF rfl (by decide) (axX4_isAsTold (by decide) (by decide) hq) ?_
        refine am_E.brk rfl (fun hp => ?_) (fun hp => ?_)
        · have h := (if_pos hp).symm.trans h
          refine am_E.go (n := 1) rfl ?_
          exact ih (by decide) (by decide) h
        · have h := (if_neg hp).symm.trans h
          refine am_E.go (n := 0) rfl ?_
          cases h
          exact am_E.ret rfl ⟨rfl, rfl⟩
set_option maxHeartbeats 4000000 in
set_option maxRecDepth 100000 in
theorem axX4_hourAsTold {I : Nat → Nat → Int32} {J : Nat → Nat → Int64} {g0 : Nat} {g1 : Nat} {r : Int32} (hg0 : dm_b g0) (hg1 : dm_s g1) (h : DX4_hourAsTold I J g0 g1 = some r) : am_F 4 nX4_hourAsTold [.ref g0, .ref g1, .retAddr 0] (TX, I, J, RX) (some (.int r)) (TX, I, J, RX) := by
  unfold DX4_hourAsTold at h
  unfold am_F
  unfold dm_b at hg0
  unfold dm_s at hg1
  rcases hg0 with rfl | rfl | rfl <;> rcases hg1 with rfl | rfl | rfl | rfl | rfl | rfl | rfl | rfl
  all_goals
    refine am_E.go (n := 1) rfl ?_
    exact (alX4_hourAsTold am_FU) (by decide) (by decide) h
def LX4_coloursLacking : Nat → Nat → (Nat → Nat → Int32) → Nat → Int32 → Int32 → Int32 → Option Int32
  | 0, _, _, _, _, _, _ => none
  | n + 1, 0, I, g0, x1, x2, x3 =>
    if (24 : Int32) ≤ x2 then
      LX4_coloursLacking n 1 I g0 x1 ((0 : Int32)) ((0 : Int32))
    else
      (DX1_drawnAt I g0 x2).bind fun q4 =>
      if q4 = (-1 : Int32) then
        LX4_coloursLacking n 0 I g0 x1 ((x2 + (1 : Int32))) 0
      else
        (DX1_drawnAt I g0 x2).bind fun q5 =>
        LX4_coloursLacking n 0 I g0 ((x1 ||| ((1 : Int32) <<< (q5 &&& 31)))) ((x2 + (1 : Int32))) 0
  | n + 1, _, I, g0, x1, x2, x3 =>
    if (DX1_stuffCount I g0) ≤ x3 then
      some ((x1 &&& (x2 ^^^ (-1 : Int32))))
    else
      (DX1_colourOf I g0 x3).bind fun q6 =>
      LX4_coloursLacking n 1 I g0 x1 ((x2 ||| ((1 : Int32) <<< (q6 &&& 31)))) ((x3 + (1 : Int32)))
def DX4_coloursLacking (I : Nat → Nat → Int32) (g0 : Nat) : Option Int32 :=
  LX4_coloursLacking am_FU 0 I g0 ((0 : Int32)) ((0 : Int32)) 0
set_option maxHeartbeats 4000000 in
set_option maxRecDepth 100000 in
theorem alX4_coloursLacking : ∀ (n : Nat), (∀ {I : Nat → Nat → Int32} {J : Nat → Nat → Int64} {g0 : Nat} {x1 : Int32} {x2 : Int32} {x3 : Int32} {r : Int32}, dm_b g0 → LX4_coloursLacking n 0 I g0 x1 x2 x3 = some r → am_E 2 nX4_coloursLacking (4, [.ref g0, .int x1, .int x2, .retAddr 0], [], (TX, I, J, RX)) (fun v M' => v = some (.int r) ∧ M' = (TX, I, J, RX))) ∧
    (∀ {I : Nat → Nat → Int32} {J : Nat → Nat → Int64} {g0 : Nat} {x1 : Int32} {x2 : Int32} {x3 : Int32} {r : Int32}, dm_b g0 → LX4_coloursLacking n 1 I g0 x1 x2 x3 = some r → am_E 2 nX4_coloursLacking (39, [.ref g0, .int x1, .int x2, .int x3], [], (TX, I, J, RX)) (fun v M' => v = some (.int r) ∧ M' = (TX, I, J, RX))) := by
  intro n
  induction n with
  | zero => exact ⟨by intros; contradiction, by intros; contradiction⟩
  | succ n ih =>
    refine ⟨?_, ?_⟩
    · intro I J g0 x1 x2 x3 r hg0 h
      simp only [LX4_coloursLacking] at h
      unfold dm_b at hg0
      rcases hg0 with rfl | rfl | rfl
      all_goals
        refine am_E.go (n := 1) rfl ?_
        refine am_E.brk rfl (fun hp => ?_) (fun hp => ?_)
        · have h := (if_pos hp).symm.trans h
          refine am_E.go (n := 3) rfl ?_
          exact ih.2 (by decide) h
        · have h := (if_neg hp).symm.trans h
          refine am_E.go (n := 1) rfl ?_
          obtain ⟨q4, hq, h⟩ := am_bindI h
          refine am_E.callF rfl (by decide) (axX1_drawnAt (by decide) hq) ?_
          refine am_E.go (n := 0) rfl ?_
          refine am_E.brk rfl (fun hp => ?_) (fun hp => ?_)
          · have h := (if_pos hp).symm.trans h
            refine am_E.go (n := 1) rfl ?_
            exact ih.1 (by decide) h
          · have h := (if_neg hp).symm.trans h
            refine am_E.go (n := 3) rfl ?_
            obtain ⟨q5, hq, h⟩ := am_bindI h
            refine am_E.callF rfl (by decide) (axX1_drawnAt (by decide) hq) ?_
            refine am_E.go (n := 4) rfl ?_
            exact ih.1 (by decide) h
    · intro I J g0 x1 x2 x3 r hg0 h
      simp only [LX4_coloursLacking] at h
      unfold dm_b at hg0
      rcases hg0 with rfl | rfl | rfl
      all_goals
        refine am_E.go (n := 1) rfl ?_
        refine am_E.callF rfl (by decide) (axX1_stuffCount (by decide) rfl) ?_
        refine am_E.brk rfl (fun hp => ?_) (fun hp => ?_)
        · have h := (if_pos hp).symm.trans h
          refine am_E.go (n := 4) rfl ?_
          cases h
          exact am_E.ret rfl ⟨rfl, rfl⟩
        · have h := (if_neg hp).symm.trans h
          refine am_E.go (n := 3) rfl ?_
          obtain ⟨q6, hq, h⟩ := am_bindI h
          refine am_E.callF rfl (by decide) (axX1_colourOf (by decide) hq) ?_
          refine am_E.go (n := 4) rfl ?_
          exact ih.2 (by decide) h
set_option maxHeartbeats 4000000 in
set_option maxRecDepth 100000 in
theorem axX4_coloursLacking {I : Nat → Nat → Int32} {J : Nat → Nat → Int64} {g0 : Nat} {r : Int32} (hg0 : dm_b g0) (h : DX4_coloursLacking I g0 = some r) : am_F 2 nX4_coloursLacking [.ref g0, .retAddr 0, .retAddr 0, .retAddr 0] (TX, I, J, RX) (some (.int r)) (TX, I, J, RX) := by
  unfold DX4_coloursLacking at h
  unfold am_F
  unfold dm_b at hg0
  rcases hg0 with rfl | rfl | rfl
  all_goals
    refine am_E.go (n := 3) rfl ?_
    exact (alX4_coloursLacking am_FU).1 (by decide) h
def LX4_cellsWrong : Nat → (Nat → Nat → Int32) → Nat → Int32 → Int32 → Option Int32
  | 0, _, _, _, _ => none
  | n + 1, I, g0, x1, x2 =>
    if (24 : Int32) ≤ x2 then
      some x1
    else
      (DX1_laidAt I g0 x2).bind fun q3 =>
      if q3 = (-1 : Int32) then
        LX4_cellsWrong n I g0 x1 ((x2 + (1 : Int32)))
      else
        (DX4_hasItsColour I g0 x2).bind fun q4 =>
        if ¬ q4 = 0 then
          LX4_cellsWrong n I g0 x1 ((x2 + (1 : Int32)))
        else
          LX4_cellsWrong n I g0 ((x1 ||| ((1 : Int32) <<< (x2 &&& 31)))) ((x2 + (1 : Int32)))
def DX4_cellsWrong (I : Nat → Nat → Int32) (g0 : Nat) : Option Int32 :=
  LX4_cellsWrong am_FU I g0 ((0 : Int32)) ((0 : Int32))
set_option maxHeartbeats 4000000 in
set_option maxRecDepth 100000 in
theorem alX4_cellsWrong : ∀ (n : Nat), ∀ {I : Nat → Nat → Int32} {J : Nat → Nat → Int64} {g0 : Nat} {x1 : Int32} {x2 : Int32} {r : Int32}, dm_b g0 → LX4_cellsWrong n I g0 x1 x2 = some r → am_E 3 nX4_cellsWrong (4, [.ref g0, .int x1, .int x2], [], (TX, I, J, RX)) (fun v M' => v = some (.int r) ∧ M' = (TX, I, J, RX)) := by
  intro n
  induction n with
  | zero => intros; contradiction
  | succ n ih =>
    intro I J g0 x1 x2 r hg0 h
    simp only [LX4_cellsWrong] at h
    unfold dm_b at hg0
    rcases hg0 with rfl | rfl | rfl
    all_goals
      refine am_E.go (n := 1) rfl ?_
      refine am_E.brk rfl (fun hp => ?_) (fun hp => ?_)
      · have h := (if_pos hp).symm.trans h
        refine am_E.go (n := 0) rfl ?_
        cases h
        exact am_E.ret rfl ⟨rfl, rfl⟩
      · have h := (if_neg hp).symm.trans h
        refine am_E.go (n := 1) rfl ?_
        obtain ⟨q3, hq, h⟩ := am_bindI h
        refine am_E.callF rfl (by decide) (axX1_laidAt (by decide) hq) ?_
        refine am_E.go (n := 0) rfl ?_
        refine am_E.brk rfl (fun hp => ?_) (fun hp => ?_)
        · have h := (if_pos hp).symm.trans h
          refine am_E.go (n := 1) rfl ?_
          exact ih (by decide) h
        · have h := (if_neg hp).symm.trans h
          refine am_E.go (n := 1) rfl ?_
          obtain ⟨q4, hq, h⟩ := am_bindI h
          refine am_E.callF rfl (by decide) (axX4_hasItsColour (by decide) hq) ?_
          refine am_E.brk rfl (fun hp => ?_) (fun hp => ?_)
          · have h := (if_pos hp).symm.trans h
            refine am_E.go (n := 1) rfl ?_
            exact ih (by decide) h
          · have h := (if_neg hp).symm.trans h
            refine am_E.go (n := 7) rfl ?_
            exact ih (by decide) h
set_option maxHeartbeats 4000000 in
set_option maxRecDepth 100000 in
theorem axX4_cellsWrong {I : Nat → Nat → Int32} {J : Nat → Nat → Int64} {g0 : Nat} {r : Int32} (hg0 : dm_b g0) (h : DX4_cellsWrong I g0 = some r) : am_F 3 nX4_cellsWrong [.ref g0, .retAddr 0, .retAddr 0] (TX, I, J, RX) (some (.int r)) (TX, I, J, RX) := by
  unfold DX4_cellsWrong at h
  unfold am_F
  unfold dm_b at hg0
  rcases hg0 with rfl | rfl | rfl
  all_goals
    refine am_E.go (n := 3) rfl ?_
    exact (alX4_cellsWrong am_FU) (by decide) h
