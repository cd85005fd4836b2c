/-! THE METHODS AS FUNCTIONS over the memory, and the row that their runs do so: laid by program (wip/whole/decomp.py) -/
def DX7_tellingTrouble (I : Nat → Nat → Int32) (g0 : Nat) (a1 : Int32) : Int32 :=
  if (DX3_rowTrouble I g0) = 0 then
    if 0 ≤ a1 then
      if (DX3_hasElements I g0 ((0 : Int32)) a1) = 0 then
        (-5 : Int32)
      else
        (0 : Int32)
    else
      (-4 : Int32)
  else
    (DX3_rowTrouble I g0)
set_option maxHeartbeats 4000000 in
set_option maxRecDepth 100000 in
theorem axX7_tellingTrouble {I : Nat → Nat → Int32} {J : Nat → Nat → Int64} {g0 : Nat} {a1 : Int32} {r : Int32} (hg0 : dm_s g0) (h : DX7_tellingTrouble I g0 a1 = r) : am_F 2 nX7_tellingTrouble [.ref g0, .int a1, .retAddr 0] (TX, I, J, RX) (some (.int r)) (TX, I, J, RX) := by
  unfold DX7_tellingTrouble at h
  unfold am_F
  unfold dm_s at hg0
  rcases hg0 with rfl | rfl | rfl | rfl | rfl | rfl | rfl | rfl
  all_goals
    refine am_E.go (n := 0) rfl ?_
    refine am_E.callF rfl (by decide) (axX3_rowTrouble (by decide) rfl) ?_
    refine am_E.go (n := 1) rfl ?_
    refine am_E.brk rfl (fun hp => ?_) (fun hp => ?_)
    · have h := (if_pos hp).symm.trans h
      refine am_E.go (n := 0) rfl ?_
      refine am_E.brk rfl (fun hp => ?_) (fun hp => ?_)
      · have h := (if_pos hp).symm.trans h
        refine am_E.go (n := 2) rfl ?_
        refine am_E.callF rfl (by decide) (axX3_hasElements (by decide) rfl) ?_
        refine am_E.brk rfl (fun hp => ?_) (fun hp => ?_)
        · have h := (if_pos hp).symm.trans h
          refine am_E.go (n := 0) rfl ?_
          subst h
          exact am_E.ret rfl ⟨rfl, rfl⟩
        · have h := (if_neg hp).symm.trans h
          refine am_E.go (n := 1) rfl ?_
          subst h
          exact am_E.ret rfl ⟨rfl, rfl⟩
      · have h := (if_neg hp).symm.trans h
        refine am_E.go (n := 0) rfl ?_
        subst h
        exact am_E.ret rfl ⟨rfl, rfl⟩
    · have h := (if_neg hp).symm.trans h
      refine am_E.go (n := 0) rfl ?_
      subst h
      exact am_E.ret rfl ⟨rfl, rfl⟩
def DX7_age (I : Nat → Nat → Int32) (J : Nat → Nat → Int64) (a0 : Int32) (a1 : Int32) : Option (Int32 × (Nat → Nat → Int32) × (Nat → Nat → Int64)) :=
  if (DX7_shelfAt a0) = 0 then
    (DX7_refuse I J ((-11 : Int32))).bind fun q1 =>
    some (q1.1, q1.2.1, q1.2.2)
  else
    if (DX7_tellingTrouble I ((DX7_shelfAt a0)) a1) = 0 then
      (DX1_laidCount I 2).bind fun q2 =>
      if a1 = q2 then
        (DX4_hourAsTold I J 2 ((DX7_shelfAt a0))).bind fun q3 =>
        some (q3, I, J)
      else
        (DX7_refuse I J ((-16 : Int32))).bind fun q4 =>
        some (q4.1, q4.2.1, q4.2.2)
    else
      (DX7_refuse I J (((-10 : Int32) + (DX7_tellingTrouble I ((DX7_shelfAt a0)) a1)))).bind fun q5 =>
      some (q5.1, q5.2.1, q5.2.2)
set_option maxHeartbeats 4000000 in
set_option maxRecDepth 100000 in
theorem axX7_age {I : Nat → Nat → Int32} {J : Nat → Nat → Int64} {a0 : Int32} {a1 : Int32} {r : Int32} {I' : Nat → Nat → Int32} {J' : Nat → Nat → Int64} (h : DX7_age I J a0 a1 = some (r, I', J')) : am_F 5 nX7_age [.ref 0, .int a0, .int a1, .retAddr 0, .retAddr 0] (TX, I, J, RX) (some (.int r)) (TX, I', J', RX) := by
  unfold DX7_age at h
  unfold am_F
  refine am_E.go (n := 1) rfl ?_
  refine am_E.callF rfl (by decide) (axX7_shelfAt _ _ _) ?_
  by_cases hp : (DX7_shelfAt a0) = 0
  · have h := (if_pos hp).symm.trans h
    rw [am_rv0 hp]
    refine am_E.go (n := 1) rfl ?_
    refine am_E.step rfl ?_
    refine am_E.go (n := 1) rfl ?_
    obtain ⟨q1, hq, h⟩ := am_bindI h
    obtain ⟨q1_1, q1_2, q1_3⟩ := q1
    refine am_E.callF rfl (by decide) (axX7_refuse hq) ?_
    cases h
    exact am_E.ret rfl ⟨rfl, rfl⟩
  · have h := (if_neg hp).symm.trans h
    rw [am_rv1 hp]
    have hsh0 := axX7_shelfId hp
    refine am_E.go (n := 1) rfl ?_
    refine am_E.grd rfl (am_lt9 (am_shLt hsh0)) ?_
    refine am_E.go (n := 1) rfl ?_
    refine am_E.callF rfl (by decide) (axX7_tellingTrouble hsh0 rfl) ?_
    refine am_E.go (n := 1) rfl ?_
    refine am_E.brk rfl (fun hp => ?_) (fun hp => ?_)
    · have h := (if_pos hp).symm.trans h
      refine am_E.go (n := 2) rfl ?_
      obtain ⟨q2, hq, h⟩ := am_bindI h
      refine am_E.callF rfl (by decide) (axX1_laidCount (by decide) hq) ?_
      refine am_E.brk rfl (fun hp => ?_) (fun hp => ?_)
      · have h := (if_pos hp).symm.trans h
        refine am_E.go (n := 2) rfl ?_
        obtain ⟨q3, hq, h⟩ := am_bindI h
        refine am_E.callF rfl (by decide) (axX4_hourAsTold (by decide) hsh0 hq) ?_
        cases h
        exact am_E.ret rfl ⟨rfl, rfl⟩
      · have h := (if_neg hp).symm.trans h
        refine am_E.go (n := 1) rfl ?_
        obtain ⟨q4, hq, h⟩ := am_bindI h
        obtain ⟨q4_1, q4_2, q4_3⟩ := q4
        refine am_E.callF rfl (by decide) (axX7_refuse hq) ?_
        cases h
        exact am_E.ret rfl ⟨rfl, rfl⟩
    · have h := (if_neg hp).symm.trans h
      refine am_E.go (n := 3) rfl ?_
      obtain ⟨q5, hq, h⟩ := am_bindI h
      obtain ⟨q5_1, q5_2, q5_3⟩ := q5
      refine am_E.callF rfl (by decide) (axX7_refuse hq) ?_
      cases h
      exact am_E.ret rfl ⟨rfl, rfl⟩
def DX7_lacking (I : Nat → Nat → Int32) : Option Int32 :=
  (DX4_coloursLacking I 2).bind fun q1 =>
  some q1
set_option maxHeartbeats 4000000 in
set_option maxRecDepth 100000 in
theorem axX7_lacking {I : Nat → Nat → Int32} {J : Nat → Nat → Int64} {r : Int32} (h : DX7_lacking I = some r) : am_F 3 nX7_lacking [.ref 0] (TX, I, J, RX) (some (.int r)) (TX, I, J, RX) := by
  unfold DX7_lacking at h
  unfold am_F
  refine am_E.go (n := 1) rfl ?_
  obtain ⟨q1, hq, h⟩ := am_bindI h
  refine am_E.callF rfl (by decide) (axX4_coloursLacking (by decide) hq) ?_
  cases h
  exact am_E.ret rfl ⟨rfl, rfl⟩
def DX7_wrong (I : Nat → Nat → Int32) : Option Int32 :=
  (DX4_cellsWrong I 2).bind fun q1 =>
  some q1
set_option maxHeartbeats 4000000 in
set_option maxRecDepth 100000 in
theorem axX7_wrong {I : Nat → Nat → Int32} {J : Nat → Nat → Int64} {r : Int32} (h : DX7_wrong I = some r) : am_F 4 nX7_wrong [.ref 0] (TX, I, J, RX) (some (.int r)) (TX, I, J, RX) := by
  unfold DX7_wrong at h
  unfold am_F
  refine am_E.go (n := 1) rfl ?_
  obtain ⟨q1, hq, h⟩ := am_bindI h
  refine am_E.callF rfl (by decide) (axX4_cellsWrong (by decide) hq) ?_
  cases h
  exact am_E.ret rfl ⟨rfl, rfl⟩
def DX7_judge (I : Nat → Nat → Int32) (J : Nat → Nat → Int64) (a0 : Int32) (a1 : Int32) : Option (Int32 × (Nat → Nat → Int32) × (Nat → Nat → Int64)) :=
  if (DX7_shelfAt a0) = 0 then
    (DX7_refuse I J ((-11 : Int32))).bind fun q1 =>
    some (q1.1, q1.2.1, q1.2.2)
  else
    if (DX7_tellingTrouble I ((DX7_shelfAt a0)) a1) = 0 then
      if a1 ≤ (40 : Int32) then
        (DX1_becomeLike I J 12 2).bind fun q2 =>
        (DX4_firstBadLaying q2.2.1 q2.2.2 12 ((DX7_shelfAt a0)) a1).bind fun q3 =>
        some (q3.1, q3.2.1, q3.2.2)
      else
        (DX7_refuse I J ((-16 : Int32))).bind fun q4 =>
        some (q4.1, q4.2.1, q4.2.2)
    else
      (DX7_refuse I J (((-10 : Int32) + (DX7_tellingTrouble I ((DX7_shelfAt a0)) a1)))).bind fun q5 =>
      some (q5.1, q5.2.1, q5.2.2)
set_option maxHeartbeats 4000000 in
set_option maxRecDepth 100000 in
theorem axX7_judge {I : Nat → Nat → Int32} {J : Nat → Nat → Int64} {a0 : Int32} {a1 : Int32} {r : Int32} {I' : Nat → Nat → Int32} {J' : Nat → Nat → Int64} (h : DX7_judge I J a0 a1 = some (r, I', J')) : am_F 4 nX7_judge [.ref 0, .int a0, .int a1, .retAddr 0, .retAddr 0] (TX, I, J, RX) (some (.int r)) (TX, I', J', RX) := by
  unfold DX7_judge at h
  unfold am_F
  refine am_E.go (n := 1) rfl ?_
  refine am_E.callF rfl (by decide) (axX7_shelfAt _ _ _) ?_
  by_cases hp : (DX7_shelfAt a0) = 0
  · have h := (if_pos hp).symm.trans h
    rw [am_rv0 hp]
    refine am_E.go (n := 1) rfl ?_
    refine am_E.step rfl ?_
    refine am_E.go (n := 1) rfl ?_
    obtain ⟨q1, hq, h⟩ := am_bindI h
    obtain ⟨q1_1, q1_2, q1_3⟩ := q1
    refine am_E.callF rfl (by decide) (axX7_refuse hq) ?_
    cases h
    exact am_E.ret rfl ⟨rfl, rfl⟩
  · have h := (if_neg hp).symm.trans h
    rw [am_rv1 hp]
    have hsh0 := axX7_shelfId hp
    refine am_E.go (n := 1) rfl ?_
    refine am_E.grd rfl (am_lt9 (am_shLt hsh0)) ?_
    refine am_E.go (n := 1) rfl ?_
    refine am_E.callF rfl (by decide) (axX7_tellingTrouble hsh0 rfl) ?_
    refine am_E.go (n := 1) rfl ?_
    refine am_E.brk rfl (fun hp => ?_) (fun hp => ?_)
    · have h := (if_pos hp).symm.trans h
      refine am_E.go (n := 1) rfl ?_
      refine am_E.brk rfl (fun hp => ?_) (fun hp => ?_)
      · have h := (if_pos hp).symm.trans h
        refine am_E.go (n := 3) rfl ?_
        obtain ⟨q2, hq, h⟩ := am_bindI h
        obtain ⟨q2_1, q2_2, q2_3⟩ := q2
        refine am_E.callF rfl (by decide) (axX1_becomeLike (by decide) (by decide) hq) ?_
        refine am_E.go (n := 3) rfl ?_
        obtain ⟨q3, hq, h⟩ := am_bindI h
        obtain ⟨q3_1, q3_2, q3_3⟩ := q3
        refine am_E.callF rfl (by decide) (axX4_firstBadLaying (by decide) hsh0 hq) ?_
        cases h
        exact am_E.ret rfl ⟨rfl, rfl⟩
      · have h := (if_neg hp).symm.trans h
        refine am_E.go (n := 1) rfl ?_
        obtain ⟨q4, hq, h⟩ := am_bindI h
        obtain ⟨q4_1, q4_2, q4_3⟩ := q4
        refine am_E.callF rfl (by decide) (axX7_refuse hq) ?_
        cases h
        exact am_E.ret rfl ⟨rfl, rfl⟩
    · have h := (if_neg hp).symm.trans h
      refine am_E.go (n := 3) rfl ?_
      obtain ⟨q5, hq, h⟩ := am_bindI h
      obtain ⟨q5_1, q5_2, q5_3⟩ := q5
      refine am_E.callF rfl (by decide) (axX7_refuse hq) ?_
      cases h
      exact am_E.ret rfl ⟨rfl, rfl⟩
def DX7_days (I : Nat → Nat → Int32) (J : Nat → Nat → Int64) (a0 : Int32) : Option (Int32 × (Nat → Nat → Int32) × (Nat → Nat → Int64)) :=
  if a0 < (1 : Int32) then
    (DX7_refuse I J ((-6 : Int32))).bind fun q1 =>
    some (q1.1, q1.2.1, q1.2.2)
  else
    if a0 ≤ (20 : Int32) then
      (DX1_passDays I J 2 a0).bind fun q2 =>
      some (q2.1, q2.2.1, q2.2.2)
    else
      (DX7_refuse I J ((-6 : Int32))).bind fun q3 =>
      some (q3.1, q3.2.1, q3.2.2)
set_option maxHeartbeats 4000000 in
set_option maxRecDepth 100000 in
theorem axX7_days {I : Nat → Nat → Int32} {J : Nat → Nat → Int64} {a0 : Int32} {r : Int32} {I' : Nat → Nat → Int32} {J' : Nat → Nat → Int64} (h : DX7_days I J a0 = some (r, I', J')) : am_F 4 nX7_days [.ref 0, .int a0] (TX, I, J, RX) (some (.int r)) (TX, I', J', RX) := by
  unfold DX7_days at h
  unfold am_F
  refine am_E.go (n := 1) rfl ?_
  refine am_E.brk rfl (fun hp => ?_) (fun hp => ?_)
  · have h := (if_pos hp).symm.trans h
    refine am_E.go (n := 1) rfl ?_
    obtain ⟨q1, hq, h⟩ := am_bindI h
    obtain ⟨q1_1, q1_2, q1_3⟩ := q1
    refine am_E.callF rfl (by decide) (axX7_refuse hq) ?_
    cases h
    exact am_E.ret rfl ⟨rfl, rfl⟩
  · have h := (if_neg hp).symm.trans h
    refine am_E.go (n := 1) rfl ?_
    refine am_E.brk rfl (fun hp => ?_) (fun hp => ?_)
    · have h := (if_pos hp).symm.trans h
      refine am_E.go (n := 2) rfl ?_
      obtain ⟨q2, hq, h⟩ := am_bindI h
      obtain ⟨q2_1, q2_2, q2_3⟩ := q2
      refine am_E.callF rfl (by decide) (axX1_passDays (by decide) hq) ?_
      cases h
      exact am_E.ret rfl ⟨rfl, rfl⟩
    · have h := (if_neg hp).symm.trans h
      refine am_E.go (n := 1) rfl ?_
      obtain ⟨q3, hq, h⟩ := am_bindI h
      obtain ⟨q3_1, q3_2, q3_3⟩ := q3
      refine am_E.callF rfl (by decide) (axX7_refuse hq) ?_
      cases h
      exact am_E.ret rfl ⟨rfl, rfl⟩
def DX7_seed (I : Nat → Nat → Int32) (J : Nat → Nat → Int64) (a0 : Int32) : Option (Int32 × (Nat → Nat → Int32) × (Nat → Nat → Int64)) :=
  (DX1_sow I J 2 a0).bind fun q1 =>
  some ((DX1_seedNow I 2), q1.2.1, q1.2.2)
set_option maxHeartbeats 4000000 in
set_option maxRecDepth 100000 in
theorem axX7_seed {I : Nat → Nat → Int32} {J : Nat → Nat → Int64} {a0 : Int32} {r : Int32} {I' : Nat → Nat → Int32} {J' : Nat → Nat → Int64} (h : DX7_seed I J a0 = some (r, I', J')) : am_F 1 nX7_seed [.ref 0, .int a0, .retAddr 0] (TX, I, J, RX) (some (.int r)) (TX, I', J', RX) := by
  unfold DX7_seed at h
  unfold am_F
  refine am_E.go (n := 1) rfl ?_
  refine am_E.callF rfl (by decide) (axX1_seedNow (by decide) rfl) ?_
  refine am_E.go (n := 3) rfl ?_
  obtain ⟨q1, hq, h⟩ := am_bindI h
  obtain ⟨q1_1, q1_2, q1_3⟩ := q1
  refine am_E.callF rfl (by decide) (axX1_sow (by decide) hq) ?_
  refine am_E.go (n := 0) rfl ?_
  cases h
  exact am_E.ret rfl ⟨rfl, rfl⟩
def DX7_act (I : Nat → Nat → Int32) (J : Nat → Nat → Int64) (a0 : Int32) (a1 : Int32) (a2 : Int32) : Option (Int32 × (Nat → Nat → Int32) × (Nat → Nat → Int64)) :=
  if (DX1_isStuff I 2 a0) = 0 then
    (DX0_forget I J).bind fun q1 =>
    some ((0 : Int32), q1.2.1, q1.2.2)
  else
    if a1 < 0 then
      (DX0_forget I J).bind fun q2 =>
      some ((0 : Int32), q2.2.1, q2.2.2)
    else
      if a1 < (3 : Int32) then
        (DX0_perform I J 2 a0 a1 a2).bind fun q3 =>
        some (q3.1, q3.2.1, q3.2.2)
      else
        (DX0_forget I J).bind fun q4 =>
        some ((0 : Int32), q4.2.1, q4.2.2)
set_option maxHeartbeats 4000000 in
set_option maxRecDepth 100000 in
theorem axX7_act {I : Nat → Nat → Int32} {J : Nat → Nat → Int64} {a0 : Int32} {a1 : Int32} {a2 : Int32} {r : Int32} {I' : Nat → Nat → Int32} {J' : Nat → Nat → Int64} (h : DX7_act I J a0 a1 a2 = some (r, I', J')) : am_F 49 nX7_act [.ref 0, .int a0, .int a1, .int a2] (TX, I, J, RX) (some (.int r)) (TX, I', J', RX) := by
  unfold DX7_act at h
  unfold am_F
  refine am_E.go (n := 2) rfl ?_
  refine am_E.callF rfl (by decide) (axX1_isStuff (by decide) rfl) ?_
  refine am_E.brk rfl (fun hp => ?_) (fun hp => ?_)
  · have h := (if_pos hp).symm.trans h
    refine am_E.go (n := 1) rfl ?_
    obtain ⟨q1, hq, h⟩ := am_bindI h
    obtain ⟨q1_1, q1_2, q1_3⟩ := q1
    refine am_E.callF rfl (by decide) (axX0_forget hq) ?_
    refine am_E.go (n := 0) rfl ?_
    cases h
    exact am_E.ret rfl ⟨rfl, rfl⟩
  · have h := (if_neg hp).symm.trans h
    refine am_E.go (n := 0) rfl ?_
    refine am_E.brk rfl (fun hp => ?_) (fun hp => ?_)
    · have h := (if_pos hp).symm.trans h
      refine am_E.go (n := 1) rfl ?_
      obtain ⟨q2, hq, h⟩ := am_bindI h
      obtain ⟨q2_1, q2_2, q2_3⟩ := q2
      refine am_E.callF rfl (by decide) (axX0_forget hq) ?_
      refine am_E.go (n := 0) rfl ?_
      cases h
      exact am_E.ret rfl ⟨rfl, rfl⟩
    · have h := (if_neg hp).symm.trans h
      refine am_E.go (n := 1) rfl ?_
      refine am_E.brk rfl (fun hp => ?_) (fun hp => ?_)
      · have h := (if_pos hp).symm.trans h
        refine am_E.go (n := 6) rfl ?_
        obtain ⟨q3, hq, h⟩ := am_bindI h
        obtain ⟨q3_1, q3_2, q3_3⟩ := q3
        refine am_E.callF rfl (by decide) (axX0_perform (by decide) hq) ?_
        cases h
        exact am_E.ret rfl ⟨rfl, rfl⟩
      · have h := (if_neg hp).symm.trans h
        refine am_E.go (n := 1) rfl ?_
        obtain ⟨q4, hq, h⟩ := am_bindI h
        obtain ⟨q4_1, q4_2, q4_3⟩ := q4
        refine am_E.callF rfl (by decide) (axX0_forget hq) ?_
        refine am_E.go (n := 0) rfl ?_
        cases h
        exact am_E.ret rfl ⟨rfl, rfl⟩
def DX7_trace (I : Nat → Nat → Int32) (a0 : Int32) : Option Int32 :=
  (DX0_bodyAt I a0).bind fun q1 =>
  some q1
set_option maxHeartbeats 4000000 in
set_option maxRecDepth 100000 in
theorem axX7_trace {I : Nat → Nat → Int32} {J : Nat → Nat → Int64} {a0 : Int32} {r : Int32} (h : DX7_trace I a0 = some r) : am_F 1 nX7_trace [.ref 0, .int a0] (TX, I, J, RX) (some (.int r)) (TX, I, J, RX) := by
  unfold DX7_trace at h
  unfold am_F
  refine am_E.go (n := 2) rfl ?_
  obtain ⟨q1, hq, h⟩ := am_bindI h
  refine am_E.callF rfl (by decide) (axX0_bodyAt hq) ?_
  cases h
  exact am_E.ret rfl ⟨rfl, rfl⟩
def DX7_image (I : Nat → Nat → Int32) (J : Nat → Nat → Int64) : Option (Int32 × (Nat → Nat → Int32) × (Nat → Nat → Int64)) :=
  (DX1_becomeLike I J 22 2).bind fun q1 =>
  if (1 : Int32) = 0 ∨ (1 : Int32) = 1 then
    some ((DX1_stuffCount (am_upI q1.2.1 0 4 (1 : Int32)) 22), (am_upI q1.2.1 0 4 (1 : Int32)), q1.2.2)
  else none
set_option maxHeartbeats 4000000 in
set_option maxRecDepth 100000 in
theorem axX7_image {I : Nat → Nat → Int32} {J : Nat → Nat → Int64} {r : Int32} {I' : Nat → Nat → Int32} {J' : Nat → Nat → Int64} (h : DX7_image I J = some (r, I', J')) : am_F 1 nX7_image [.ref 0] (TX, I, J, RX) (some (.int r)) (TX, I', J', RX) := by
  unfold DX7_image at h
  unfold am_F
  refine am_E.go (n := 3) rfl ?_
  obtain ⟨q1, hq, h⟩ := am_bindI h
  obtain ⟨q1_1, q1_2, q1_3⟩ := q1
  refine am_E.callF rfl (by decide) (axX1_becomeLike (by decide) (by decide) hq) ?_
  refine am_E.go (n := 1) rfl ?_
  obtain ⟨hg, h⟩ := am_ifI h
  refine am_E.grd rfl hg ?_
  refine am_E.go (n := 1) rfl ?_
  refine am_E.callF rfl (by decide) (axX1_stuffCount (by decide) rfl) ?_
  cases h
  exact am_E.ret rfl ⟨rfl, rfl⟩
def LX7_restore : Nat → (Nat → Nat → Int32) → (Nat → Nat → Int64) → Int32 → Option (Int32 × (Nat → Nat → Int32) × (Nat → Nat → Int64))
  | 0, _, _, _ => none
  | n + 1, I, J, x1 =>
    if (8 : Int32) ≤ x1 then
      some ((DX1_stuffCount I 2), I, J)
    else
      if (DX7_shelfAt x1) = 0 then
        LX7_restore n I J ((x1 + (1 : Int32)))
      else
        if (DX3_holdsStuff I ((DX7_shelfAt x1))) = 0 then
          LX7_restore n I J ((x1 + (1 : Int32)))
        else
          if ¬ (DX1_isStuff I 2 ((DX3_stuffHeld I ((DX7_shelfAt x1))))) = 0 then
            LX7_restore n I J ((x1 + (1 : Int32)))
          else
            (DX3_takeNothing I J ((DX7_shelfAt x1))).bind fun q4 =>
            LX7_restore n q4.2.1 q4.2.2 ((x1 + (1 : Int32)))
def DX7_restore (I : Nat → Nat → Int32) (J : Nat → Nat → Int64) : Option (Int32 × (Nat → Nat → Int32) × (Nat → Nat → Int64)) :=
  if ¬ (I 0 4) = 0 then
    (DX1_becomeLike I J 2 22).bind fun q1 =>
    LX7_restore am_FU q1.2.1 q1.2.2 ((0 : Int32))
  else
    (DX7_refuse I J ((-6 : Int32))).bind fun q2 =>
    some (q2.1, q2.2.1, q2.2.2)
set_option maxHeartbeats 4000000 in
set_option maxRecDepth 100000 in
theorem alX7_restore : ∀ (n : Nat), ∀ {I : Nat → Nat → Int32} {J : Nat → Nat → Int64} {x1 : Int32} {I' : Nat → Nat → Int32} {J' : Nat → Nat → Int64} {r : Int32}, LX7_restore n I J x1 = some (r, I', J') → am_E 2 nX7_restore (27, [.ref 0, .int x1, .retAddr 0], [], (TX, I, J, RX)) (fun v M' => v = some (.int r) ∧ M' = (TX, I', J', RX)) := by
  intro n
  induction n with
  | zero => intros; contradiction
  | succ n ih =>
    intro I J x1 I' J' r h
    simp only [LX7_restore] at h
    refine am_E.go (n := 1) rfl ?_
    refine am_E.brk rfl (fun hp => ?_) (fun hp => ?_)
    · have h := (if_pos hp).symm.trans h
      refine am_E.go (n := 1) rfl ?_
      refine am_E.callF rfl (by decide) (axX1_stuffCount (by decide) rfl) ?_
      cases h
      exact am_E.ret rfl ⟨rfl, rfl⟩
    · have h := (if_neg hp).symm.trans h
      refine am_E.go (n := 1) rfl ?_
      refine am_E.callF rfl (by decide) (axX7_shelfAt _ _ _) ?_
      by_cases hp : (DX7_shelfAt x1) = 0
      · have h := (if_pos hp).symm.trans h
        rw [am_rv0 hp]
        refine am_E.go (n := 1) rfl ?_
        refine am_E.step rfl ?_
        refine am_E.go (n := 1) rfl ?_
        refine am_E.less (ls0 := [_, _, .retAddr 0]) ?_ ⟨Or.inl rfl, Or.inl rfl, Or.inr ⟨rfl, rfl⟩, trivial⟩
        exact ih h
      · have h := (if_neg hp).symm.trans h
        rw [am_rv1 hp]
        have hsh0 := axX7_shelfId hp
        refine am_E.go (n := 1) rfl ?_
        refine am_E.grd rfl (am_lt9 (am_shLt hsh0)) ?_
        refine am_E.go (n := 0) rfl ?_
        refine am_E.callGF rfl (am_shTag hsh0) (by decide) (axX3_holdsStuff hsh0 rfl) ?_
        refine am_E.brk rfl (fun hp => ?_) (fun hp => ?_)
        · have h := (if_pos hp).symm.trans h
          refine am_E.go (n := 1) rfl ?_
          refine am_E.less (ls0 := [_, _, .retAddr 0]) ?_ ⟨Or.inl rfl, Or.inl rfl, Or.inr ⟨rfl, rfl⟩, trivial⟩
          exact ih h
        · have h := (if_neg hp).symm.trans h
          refine am_E.go (n := 2) rfl ?_
          refine am_E.callGF rfl (am_shTag hsh0) (by decide) (axX3_stuffHeld hsh0 rfl) ?_
          refine am_E.callF rfl (by decide) (axX1_isStuff (by decide) rfl) ?_
          refine am_E.brk rfl (fun hp => ?_) (fun hp => ?_)
          · have h := (if_pos hp).symm.trans h
            refine am_E.go (n := 1) rfl ?_
            refine am_E.less (ls0 := [_, _, .retAddr 0]) ?_ ⟨Or.inl rfl, Or.inl rfl, Or.inr ⟨rfl, rfl⟩, trivial⟩
            exact ih h
          · have h := (if_neg hp).symm.trans h
            refine am_E.go (n := 0) rfl ?_
            obtain ⟨q4, hq, h⟩ := am_bindI h
            obtain ⟨q4_1, q4_2, q4_3⟩ := q4
            refine am_E.callGF rfl (am_shTag hsh0) (by decide) (axX3_takeNothing hsh0 hq) ?_
            refine am_E.go (n := 1) rfl ?_
            refine am_E.less (ls0 := [_, _, .retAddr 0]) ?_ ⟨Or.inl rfl, Or.inl rfl, Or.inr ⟨rfl, rfl⟩, trivial⟩
            exact ih h
set_option maxHeartbeats 4000000 in
set_option maxRecDepth 100000 in
theorem axX7_restore {I : Nat → Nat → Int32} {J : Nat → Nat → Int64} {r : Int32} {I' : Nat → Nat → Int32} {J' : Nat → Nat → Int64} (h : DX7_restore I J = some (r, I', J')) : am_F 2 nX7_restore [.ref 0, .retAddr 0, .retAddr 0] (TX, I, J, RX) (some (.int r)) (TX, I', J', RX) := by
  unfold DX7_restore at h
  unfold am_F
  refine am_E.go (n := 1) rfl ?_
  refine am_E.brk rfl (fun hp => ?_) (fun hp => ?_)
  · have h := (if_pos hp).symm.trans h
    refine am_E.go (n := 3) rfl ?_
    obtain ⟨q1, hq, h⟩ := am_bindI h
    obtain ⟨q1_1, q1_2, q1_3⟩ := q1
    refine am_E.callF rfl (by decide) (axX1_becomeLike (by decide) (by decide) hq) ?_
    refine am_E.go (n := 1) rfl ?_
    exact (alX7_restore am_FU) h
  · have h := (if_neg hp).symm.trans h
    refine am_E.go (n := 1) rfl ?_
    obtain ⟨q2, hq, h⟩ := am_bindI h
    obtain ⟨q2_1, q2_2, q2_3⟩ := q2
    refine am_E.callF rfl (by decide) (axX7_refuse hq) ?_
    cases h
    exact am_E.ret rfl ⟨rfl, rfl⟩
def DX7_refusalsOf (I : Nat → Nat → Int32) (a0 : Int32) : Option Int32 :=
  if a0 < 0 then
    some ((-1 : Int32))
  else
    if a0 < (7 : Int32) then
      if ¬ (a0 < 0 ∨ 7 ≤ (a0).toNatClampNeg) then
        some ((I 40 (a0).toNatClampNeg))
      else none
    else
      some ((-1 : Int32))
set_option maxHeartbeats 4000000 in
set_option maxRecDepth 100000 in
theorem axX7_refusalsOf {I : Nat → Nat → Int32} {J : Nat → Nat → Int64} {a0 : Int32} {r : Int32} (h : DX7_refusalsOf I a0 = some r) : am_F 0 nX7_refusalsOf [.ref 0, .int a0] (TX, I, J, RX) (some (.int r)) (TX, I, J, RX) := by
  unfold DX7_refusalsOf at h
  unfold am_F
  refine am_E.go (n := 0) rfl ?_
  refine am_E.brk rfl (fun hp => ?_) (fun hp => ?_)
  · have h := (if_pos hp).symm.trans h
    refine am_E.go (n := 1) rfl ?_
    cases h
    exact am_E.ret rfl ⟨rfl, rfl⟩
  · have h := (if_neg hp).symm.trans h
    refine am_E.go (n := 3) rfl ?_
    refine am_E.brk rfl (fun hp => ?_) (fun hp => ?_)
    · have h := (if_pos hp).symm.trans h
      refine am_E.go (n := 2) rfl ?_
      obtain ⟨hg, h⟩ := am_ifI h
      refine am_E.grd rfl hg ?_
      cases h
      exact am_E.ret rfl ⟨rfl, rfl⟩
    · have h := (if_neg hp).symm.trans h
      refine am_E.go (n := 1) rfl ?_
      cases h
      exact am_E.ret rfl ⟨rfl, rfl⟩
def DX7_status (I : Nat → Nat → Int32) (a0 : Int32) : Option Int32 :=
  if a0 = 0 then
    (some ((DX1_stuffCount I 2)))
  else if a0 = 1 then
    ((DX1_laidCount I 2).bind fun q1 =>
    some q1)
  else if a0 = 2 then
    (some ((DX1_wetness I 2)))
  else if a0 = 3 then
    (some ((DX1_sunnySide I 2)))
  else if a0 = 4 then
    (some ((DX1_hourNow I 2)))
  else if a0 = 5 then
    (some ((DX1_crackCount I 2)))
  else if a0 = 6 then
    (some ((DX1_seedNow I 2)))
  else if a0 = 7 then
    (some ((DX0_bodiesRun I)))
  else (DX7_refusalsOf I ((a0 - (11 : Int32)))).bind fun q2 =>
  some q2
set_option maxHeartbeats 4000000 in
set_option maxRecDepth 100000 in
theorem axX7_status {I : Nat → Nat → Int32} {J : Nat → Nat → Int64} {a0 : Int32} {r : Int32} (h : DX7_status I a0 = some r) : am_F 2 nX7_status [.ref 0, .int a0] (TX, I, J, RX) (some (.int r)) (TX, I, J, RX) := by
  unfold DX7_status at h
  unfold am_F
  refine am_E.go (n := 0) rfl ?_
  refine am_E.sw rfl ?_
  refine ⟨fun hp => ?_, fun hp => ?_⟩
  · have h := (if_pos hp).symm.trans h
    refine am_E.go (n := 1) rfl ?_
    refine am_E.callF rfl (by decide) (axX1_stuffCount (by decide) rfl) ?_
    cases h
    exact am_E.ret rfl ⟨rfl, rfl⟩
  have h := (if_neg hp).symm.trans h
  refine ⟨fun hp => ?_, fun hp => ?_⟩
  · have h := (if_pos hp).symm.trans h
    refine am_E.go (n := 1) rfl ?_
    obtain ⟨q1, hq, h⟩ := am_bindI h
    refine am_E.callF rfl (by decide) (axX1_laidCount (by decide) hq) ?_
    cases h
    exact am_E.ret rfl ⟨rfl, rfl⟩
  have h := (if_neg hp).symm.trans h
  refine ⟨fun hp => ?_, fun hp => ?_⟩
  · have h := (if_pos hp).symm.trans h
    refine am_E.go (n := 1) rfl ?_
    refine am_E.callF rfl (by decide) (axX1_wetness (by decide) rfl) ?_
    cases h
    exact am_E.ret rfl ⟨rfl, rfl⟩
  have h := (if_neg hp).symm.trans h
  refine ⟨fun hp => ?_, fun hp => ?_⟩
  · have h := (if_pos hp).symm.trans h
    refine am_E.go (n := 1) rfl ?_
    refine am_E.callF rfl (by decide) (axX1_sunnySide (by decide) rfl) ?_
    cases h
    exact am_E.ret rfl ⟨rfl, rfl⟩
  have h := (if_neg hp).symm.trans h
  refine ⟨fun hp => ?_, fun hp => ?_⟩
  · have h := (if_pos hp).symm.trans h
    refine am_E.go (n := 1) rfl ?_
    refine am_E.callF rfl (by decide) (axX1_hourNow (by decide) rfl) ?_
    cases h
    exact am_E.ret rfl ⟨rfl, rfl⟩
  have h := (if_neg hp).symm.trans h
  refine ⟨fun hp => ?_, fun hp => ?_⟩
  · have h := (if_pos hp).symm.trans h
    refine am_E.go (n := 1) rfl ?_
    refine am_E.callF rfl (by decide) (axX1_crackCount (by decide) rfl) ?_
    cases h
    exact am_E.ret rfl ⟨rfl, rfl⟩
  have h := (if_neg hp).symm.trans h
  refine ⟨fun hp => ?_, fun hp => ?_⟩
  · have h := (if_pos hp).symm.trans h
    refine am_E.go (n := 1) rfl ?_
    refine am_E.callF rfl (by decide) (axX1_seedNow (by decide) rfl) ?_
    cases h
    exact am_E.ret rfl ⟨rfl, rfl⟩
  have h := (if_neg hp).symm.trans h
  refine ⟨fun hp => ?_, fun hp => ?_⟩
  · have h := (if_pos hp).symm.trans h
    refine am_E.go (n := 1) rfl ?_
    refine am_E.callF rfl (by decide) (axX0_bodiesRun rfl) ?_
    cases h
    exact am_E.ret rfl ⟨rfl, rfl⟩
  have h := (if_neg hp).symm.trans h
  refine am_E.go (n := 3) rfl ?_
  obtain ⟨q2, hq, h⟩ := am_bindI h
  refine am_E.callF rfl (by decide) (axX7_refusalsOf hq) ?_
  cases h
  exact am_E.ret rfl ⟨rfl, rfl⟩
def DX8_no (I : Nat → Nat → Int32) (J : Nat → Nat → Int64) (a0 : Int32) : Option (Int32 × (Nat → Nat → Int32) × (Nat → Nat → Int64)) :=
  if ¬ ((-a0) < 0 ∨ 8 ≤ ((-a0)).toNatClampNeg) then
    if ¬ ((-a0) < 0 ∨ 8 ≤ ((-a0)).toNatClampNeg) then
      some (a0, (am_upI I 1 ((-a0)).toNatClampNeg ((I 1 ((-a0)).toNatClampNeg) + (1 : Int32))), J)
    else none
  else none
set_option maxHeartbeats 4000000 in
set_option maxRecDepth 100000 in
theorem axX8_no {I : Nat → Nat → Int32} {J : Nat → Nat → Int64} {a0 : Int32} {r : Int32} {I' : Nat → Nat → Int32} {J' : Nat → Nat → Int64} (h : DX8_no I J a0 = some (r, I', J')) : am_F 0 nX8_no [.ref 0, .int a0] (TM, I, J, RM) (some (.int r)) (TM, I', J', RM) := by
  unfold DX8_no at h
  unfold am_F
  refine am_E.go (n := 4) rfl ?_
  obtain ⟨hg, h⟩ := am_ifI h
  refine am_E.grd rfl hg ?_
  refine am_E.go (n := 1) rfl ?_
  obtain ⟨hg, h⟩ := am_ifI h
  refine am_E.grd rfl hg ?_
  refine am_E.go (n := 0) rfl ?_
  cases h
  exact am_E.ret rfl ⟨rfl, rfl⟩
def DX8_noTen (I : Nat → Nat → Int32) (J : Nat → Nat → Int64) (a0 : Int32) : Option (Int32 × (Nat → Nat → Int32) × (Nat → Nat → Int64)) :=
  if ¬ ((-a0) < 0 ∨ 8 ≤ ((-a0)).toNatClampNeg) then
    if ¬ ((-a0) < 0 ∨ 8 ≤ ((-a0)).toNatClampNeg) then
      some ((a0 - (10 : Int32)), (am_upI I 1 ((-a0)).toNatClampNeg ((I 1 ((-a0)).toNatClampNeg) + (1 : Int32))), J)
    else none
  else none
set_option maxHeartbeats 4000000 in
set_option maxRecDepth 100000 in
theorem axX8_noTen {I : Nat → Nat → Int32} {J : Nat → Nat → Int64} {a0 : Int32} {r : Int32} {I' : Nat → Nat → Int32} {J' : Nat → Nat → Int64} (h : DX8_noTen I J a0 = some (r, I', J')) : am_F 0 nX8_noTen [.ref 0, .int a0] (TM, I, J, RM) (some (.int r)) (TM, I', J', RM) := by
  unfold DX8_noTen at h
  unfold am_F
  refine am_E.go (n := 4) rfl ?_
  obtain ⟨hg, h⟩ := am_ifI h
  refine am_E.grd rfl hg ?_
  refine am_E.go (n := 1) rfl ?_
  obtain ⟨hg, h⟩ := am_ifI h
  refine am_E.grd rfl hg ?_
  refine am_E.go (n := 2) rfl ?_
  cases h
  exact am_E.ret rfl ⟨rfl, rfl⟩
def DX8_isShelf (a0 : Int32) : Int32 :=
  if a0 < 0 then
    (0 : Int32)
  else
    if (8 : Int32) ≤ a0 then
      (0 : Int32)
    else
      (1 : Int32)
set_option maxHeartbeats 4000000 in
set_option maxRecDepth 100000 in
theorem axX8_isShelf {I : Nat → Nat → Int32} {J : Nat → Nat → Int64} {a0 : Int32} {r : Int32} (h : DX8_isShelf a0 = r) : am_F 0 nX8_isShelf [.ref 0, .int a0] (TM, I, J, RM) (some (.int r)) (TM, I, J, RM) := by
  unfold DX8_isShelf at h
  unfold am_F
  refine am_E.go (n := 0) rfl ?_
  refine am_E.brk rfl (fun hp => ?_) (fun hp => ?_)
  · have h := (if_pos hp).symm.trans h
    refine am_E.go (n := 0) rfl ?_
    subst h
    first | exact am_E.ret rfl ⟨rfl, rfl⟩ | exact am_E.retG rfl (by decide) ⟨rfl, rfl⟩
  · have h := (if_neg hp).symm.trans h
    refine am_E.go (n := 1) rfl ?_
    refine am_E.brk rfl (fun hp => ?_) (fun hp => ?_)
    · have h := (if_pos hp).symm.trans h
      refine am_E.go (n := 0) rfl ?_
      subst h
      first | exact am_E.ret rfl ⟨rfl, rfl⟩ | exact am_E.retG rfl (by decide) ⟨rfl, rfl⟩
    · have h := (if_neg hp).symm.trans h
      refine am_E.go (n := 1) rfl ?_
      subst h
      first | exact am_E.ret rfl ⟨rfl, rfl⟩ | exact am_E.retG rfl (by decide) ⟨rfl, rfl⟩
def DX8_isStuff (I : Nat → Nat → Int32) (a0 : Int32) : Int32 :=
  if a0 < 0 then
    (0 : Int32)
  else
    if (I 0 0) ≤ a0 then
      (0 : Int32)
    else
      (1 : Int32)
set_option maxHeartbeats 4000000 in
set_option maxRecDepth 100000 in
theorem axX8_isStuff {I : Nat → Nat → Int32} {J : Nat → Nat → Int64} {a0 : Int32} {r : Int32} (h : DX8_isStuff I a0 = r) : am_F 0 nX8_isStuff [.ref 0, .int a0] (TM, I, J, RM) (some (.int r)) (TM, I, J, RM) := by
  unfold DX8_isStuff at h
  unfold am_F
  refine am_E.go (n := 0) rfl ?_
  refine am_E.brk rfl (fun hp => ?_) (fun hp => ?_)
  · have h := (if_pos hp).symm.trans h
    refine am_E.go (n := 0) rfl ?_
    subst h
    first | exact am_E.ret rfl ⟨rfl, rfl⟩ | exact am_E.retG rfl (by decide) ⟨rfl, rfl⟩
  · have h := (if_neg hp).symm.trans h
    refine am_E.go (n := 2) rfl ?_
    refine am_E.brk rfl (fun hp => ?_) (fun hp => ?_)
    · have h := (if_pos hp).symm.trans h
      refine am_E.go (n := 0) rfl ?_
      subst h
      first | exact am_E.ret rfl ⟨rfl, rfl⟩ | exact am_E.retG rfl (by decide) ⟨rfl, rfl⟩
    · have h := (if_neg hp).symm.trans h
      refine am_E.go (n := 1) rfl ?_
      subst h
      first | exact am_E.ret rfl ⟨rfl, rfl⟩ | exact am_E.retG rfl (by decide) ⟨rfl, rfl⟩
def DX8_isCell (a0 : Int32) : Int32 :=
  if a0 < 0 then
    (0 : Int32)
  else
    if (24 : Int32) ≤ a0 then
      (0 : Int32)
    else
      (1 : Int32)
set_option maxHeartbeats 4000000 in
set_option maxRecDepth 100000 in
theorem axX8_isCell {I : Nat → Nat → Int32} {J : Nat → Nat → Int64} {a0 : Int32} {r : Int32} (h : DX8_isCell a0 = r) : am_F 0 nX8_isCell [.ref 0, .int a0] (TM, I, J, RM) (some (.int r)) (TM, I, J, RM) := by
  unfold DX8_isCell at h
  unfold am_F
  refine am_E.go (n := 0) rfl ?_
  refine am_E.brk rfl (fun hp => ?_) (fun hp => ?_)
  · have h := (if_pos hp).symm.trans h
    refine am_E.go (n := 0) rfl ?_
    subst h
    first | exact am_E.ret rfl ⟨rfl, rfl⟩ | exact am_E.retG rfl (by decide) ⟨rfl, rfl⟩
  · have h := (if_neg hp).symm.trans h
    refine am_E.go (n := 1) rfl ?_
    refine am_E.brk rfl (fun hp => ?_) (fun hp => ?_)
    · have h := (if_pos hp).symm.trans h
      refine am_E.go (n := 0) rfl ?_
      subst h
      first | exact am_E.ret rfl ⟨rfl, rfl⟩ | exact am_E.retG rfl (by decide) ⟨rfl, rfl⟩
    · have h := (if_neg hp).symm.trans h
      refine am_E.go (n := 1) rfl ?_
      subst h
      first | exact am_E.ret rfl ⟨rfl, rfl⟩ | exact am_E.retG rfl (by decide) ⟨rfl, rfl⟩
def LX8_row : Nat → (Nat → Nat → Int32) → (Nat → Nat → Int64) → Int32 → Int32 → Option (Int32 × (Nat → Nat → Int32) × (Nat → Nat → Int64))
  | 0, _, _, _, _ => none
  | n + 1, I, J, x1, x4 =>
    if (160 : Int32) ≤ x4 then
      some ((1 : Int32), I, J)
    else
      if ¬ ((((160 : Int32) * x1) + x4) < 0 ∨ 1280 ≤ ((((160 : Int32) * x1) + x4)).toNatClampNeg) then
        LX8_row n I ((am_upJ J 15 ((((160 : Int32) * x1) + x4)).toNatClampNeg (0 : Int64))) x1 ((x4 + (1 : Int32)))
      else none
def DX8_row (I : Nat → Nat → Int32) (J : Nat → Nat → Int64) (a0 : Int32) (a1 : Int32) (a2 : Int32) : Option (Int32 × (Nat → Nat → Int32) × (Nat → Nat → Int64)) :=
  if ¬ (DX8_isShelf a0) = 0 then
    if 0 ≤ a2 then
      if a1 < 0 then
        (DX8_no I J ((-6 : Int32))).bind fun q1 =>
        some (q1.1, q1.2.1, q1.2.2)
      else
        if a1 ≤ (3 : Int32) then
          if a2 ≤ (160 : Int32) then
            if ¬ (a0 < 0 ∨ 8 ≤ (a0).toNatClampNeg) then
              if ¬ (a0 < 0 ∨ 8 ≤ (a0).toNatClampNeg) then
                if ¬ (a0 < 0 ∨ 8 ≤ (a0).toNatClampNeg) then
                  (some (am_upI ((am_upI ((am_upI I 11 (a0).toNatClampNeg (1 : Int32))) 12 (a0).toNatClampNeg a1)) 13 (a0).toNatClampNeg a2)).bind fun I2 =>
                  LX8_row am_FU I2 J a0 ((0 : Int32))
                else none
              else none
            else none
          else
            (DX8_no I J ((-7 : Int32))).bind fun q3 =>
            some (q3.1, q3.2.1, q3.2.2)
        else
          (DX8_no I J ((-6 : Int32))).bind fun q4 =>
          some (q4.1, q4.2.1, q4.2.2)
    else
      (DX8_no I J ((-4 : Int32))).bind fun q5 =>
      some (q5.1, q5.2.1, q5.2.2)
  else
    (DX8_no I J ((-1 : Int32))).bind fun q6 =>
    some (q6.1, q6.2.1, q6.2.2)
set_option maxHeartbeats 4000000 in
set_option maxRecDepth 100000 in
theorem alX8_row : ∀ (n : Nat), ∀ {I : Nat → Nat → Int32} {J : Nat → Nat → Int64} {x1 : Int32} {x4 : Int32} {I' : Nat → Nat → Int32} {J' : Nat → Nat → Int64} {r : Int32}, LX8_row n I J x1 x4 = some (r, I', J') → am_E 1 nX8_row (79, [.ref 0, .int x1, .retAddr 0, .retAddr 0, .int x4], [], (TM, I, J, RM)) (fun v M' => v = some (.int r) ∧ M' = (TM, I', J', RM)) := by
  intro n
  induction n with
  | zero => intros; contradiction
  | succ n ih =>
    intro I J x1 x4 I' J' r h
    simp only [LX8_row] at h
    refine am_E.go (n := 1) rfl ?_
    refine am_E.brk rfl (fun hp => ?_) (fun hp => ?_)
    · have h := (if_pos hp).symm.trans h
      refine am_E.go (n := 0) rfl ?_
      cases h
      exact am_E.ret rfl ⟨rfl, rfl⟩
    · have h := (if_neg hp).symm.trans h
      refine am_E.go (n := 7) rfl ?_
      obtain ⟨hg, h⟩ := am_ifI h
      refine am_E.grd rfl hg ?_
      refine am_E.go (n := 1) rfl ?_
      exact ih h
set_option maxHeartbeats 4000000 in
set_option maxRecDepth 100000 in
theorem axX8_row {I : Nat → Nat → Int32} {J : Nat → Nat → Int64} {a0 : Int32} {a1 : Int32} {a2 : Int32} {r : Int32} {I' : Nat → Nat → Int32} {J' : Nat → Nat → Int64} (h : DX8_row I J a0 a1 a2 = some (r, I', J')) : am_F 1 nX8_row [.ref 0, .int a0, .int a1, .int a2, .retAddr 0] (TM, I, J, RM) (some (.int r)) (TM, I', J', RM) := by
  unfold DX8_row at h
  unfold am_F
  refine am_E.go (n := 1) rfl ?_
  refine am_E.callF rfl (by decide) (axX8_isShelf rfl) ?_
  refine am_E.brk rfl (fun hp => ?_) (fun hp => ?_)
  · have h := (if_pos hp).symm.trans h
    refine am_E.go (n := 0) rfl ?_
    refine am_E.brk rfl (fun hp => ?_) (fun hp => ?_)
    · have h := (if_pos hp).symm.trans h
      refine am_E.go (n := 0) rfl ?_
      refine am_E.brk rfl (fun hp => ?_) (fun hp => ?_)
      · have h := (if_pos hp).symm.trans h
        refine am_E.go (n := 1) rfl ?_
        obtain ⟨q1, hq, h⟩ := am_bindI h
        obtain ⟨q1_1, q1_2, q1_3⟩ := q1
        refine am_E.callF rfl (by decide) (axX8_no hq) ?_
        cases h
        exact am_E.ret rfl ⟨rfl, rfl⟩
      · have h := (if_neg hp).symm.trans h
        refine am_E.go (n := 1) rfl ?_
        refine am_E.brk rfl (fun hp => ?_) (fun hp => ?_)
        · have h := (if_pos hp).symm.trans h
          refine am_E.go (n := 1) rfl ?_
          refine am_E.brk rfl (fun hp => ?_) (fun hp => ?_)
          · have h := (if_pos hp).symm.trans h
            refine am_E.go (n := 3) rfl ?_
            obtain ⟨hg, h⟩ := am_ifI h
            refine am_E.grd rfl hg ?_
            refine am_E.go (n := 3) rfl ?_
            obtain ⟨hg, h⟩ := am_ifI h
            refine am_E.grd rfl hg ?_
            refine am_E.go (n := 3) rfl ?_
            obtain ⟨hg, h⟩ := am_ifI h
            refine am_E.grd rfl hg ?_
            obtain ⟨I2, hI, h⟩ := am_bindI h
            obtain rfl := Option.some.inj hI
            refine am_E.go (n := 1) rfl ?_
            refine am_E.less (ls0 := [_, _, .retAddr 0, .retAddr 0, _]) ?_ ⟨Or.inl rfl, Or.inl rfl, Or.inr ⟨rfl, rfl⟩, Or.inr ⟨rfl, rfl⟩, Or.inl rfl, trivial⟩
            exact (alX8_row am_FU) h
          · have h := (if_neg hp).symm.trans h
            refine am_E.go (n := 1) rfl ?_
            obtain ⟨q3, hq, h⟩ := am_bindI h
            obtain ⟨q3_1, q3_2, q3_3⟩ := q3
            refine am_E.callF rfl (by decide) (axX8_no hq) ?_
            cases h
            exact am_E.ret rfl ⟨rfl, rfl⟩
        · have h := (if_neg hp).symm.trans h
          refine am_E.go (n := 1) rfl ?_
          obtain ⟨q4, hq, h⟩ := am_bindI h
          obtain ⟨q4_1, q4_2, q4_3⟩ := q4
          refine am_E.callF rfl (by decide) (axX8_no hq) ?_
          cases h
          exact am_E.ret rfl ⟨rfl, rfl⟩
    · have h := (if_neg hp).symm.trans h
      refine am_E.go (n := 1) rfl ?_
      obtain ⟨q5, hq, h⟩ := am_bindI h
      obtain ⟨q5_1, q5_2, q5_3⟩ := q5
      refine am_E.callF rfl (by decide) (axX8_no hq) ?_
      cases h
      exact am_E.ret rfl ⟨rfl, rfl⟩
  · have h := (if_neg hp).symm.trans h
    refine am_E.go (n := 1) rfl ?_
    obtain ⟨q6, hq, h⟩ := am_bindI h
    obtain ⟨q6_1, q6_2, q6_3⟩ := q6
    refine am_E.callF rfl (by decide) (axX8_no hq) ?_
    cases h
    exact am_E.ret rfl ⟨rfl, rfl⟩
def DX8_set (I : Nat → Nat → Int32) (J : Nat → Nat → Int64) (a0 : Int32) (a1 : Int32) (a2 : Int64) : Option (Int32 × (Nat → Nat → Int32) × (Nat → Nat → Int64)) :=
  if ¬ (DX8_isShelf a0) = 0 then
    if ¬ (a0 < 0 ∨ 8 ≤ (a0).toNatClampNeg) then
      if ¬ (I 11 (a0).toNatClampNeg) = (2 : Int32) then
        if ¬ (a0 < 0 ∨ 8 ≤ (a0).toNatClampNeg) then
          if ¬ (I 11 (a0).toNatClampNeg) = 0 then
            if a1 < 0 then
              (DX8_no I J ((-5 : Int32))).bind fun q1 =>
              some (q1.1, q1.2.1, q1.2.2)
            else
              if ¬ (a0 < 0 ∨ 8 ≤ (a0).toNatClampNeg) then
                if a1 < (I 13 (a0).toNatClampNeg) then
                  if ¬ (a0 < 0 ∨ 8 ≤ (a0).toNatClampNeg) then
                    if ¬ (I 12 (a0).toNatClampNeg) = 0 then
                      if ¬ (a0 < 0 ∨ 8 ≤ (a0).toNatClampNeg) then
                        if ¬ (I 12 (a0).toNatClampNeg) = (1 : Int32) then
                          if ¬ (a0 < 0 ∨ 8 ≤ (a0).toNatClampNeg) then
                            if ¬ (I 12 (a0).toNatClampNeg) = (2 : Int32) then
                              if ¬ ((((160 : Int32) * a0) + a1) < 0 ∨ 1280 ≤ ((((160 : Int32) * a0) + a1)).toNatClampNeg) then
                                some ((1 : Int32), I, (am_upJ J 15 ((((160 : Int32) * a0) + a1)).toNatClampNeg a2))
                              else none
                            else
                              if ¬ ((((160 : Int32) * a0) + a1) < 0 ∨ 1280 ≤ ((((160 : Int32) * a0) + a1)).toNatClampNeg) then
                                some ((1 : Int32), I, (am_upJ J 15 ((((160 : Int32) * a0) + a1)).toNatClampNeg ((a2).toInt32).toInt64))
                              else none
                          else none
                        else
                          if ¬ ((((160 : Int32) * a0) + a1) < 0 ∨ 1280 ≤ ((((160 : Int32) * a0) + a1)).toNatClampNeg) then
                            some ((1 : Int32), I, (am_upJ J 15 ((((160 : Int32) * a0) + a1)).toNatClampNeg (((a2).toInt32).toInt16.toInt32).toInt64))
                          else none
                      else none
                    else
                      if ¬ ((((160 : Int32) * a0) + a1) < 0 ∨ 1280 ≤ ((((160 : Int32) * a0) + a1)).toNatClampNeg) then
                        some ((1 : Int32), I, (am_upJ J 15 ((((160 : Int32) * a0) + a1)).toNatClampNeg (((a2).toInt32).toInt8.toInt32).toInt64))
                      else none
                  else none
                else
                  (DX8_no I J ((-5 : Int32))).bind fun q2 =>
                  some (q2.1, q2.2.1, q2.2.2)
              else none
          else
            (DX8_no I J ((-3 : Int32))).bind fun q3 =>
            some (q3.1, q3.2.1, q3.2.2)
        else none
      else
        (DX8_no I J ((-2 : Int32))).bind fun q4 =>
        some (q4.1, q4.2.1, q4.2.2)
    else none
  else
    (DX8_no I J ((-1 : Int32))).bind fun q5 =>
    some (q5.1, q5.2.1, q5.2.2)
set_option maxHeartbeats 4000000 in
set_option maxRecDepth 100000 in
theorem axX8_set {I : Nat → Nat → Int32} {J : Nat → Nat → Int64} {a0 : Int32} {a1 : Int32} {a2 : Int64} {r : Int32} {I' : Nat → Nat → Int32} {J' : Nat → Nat → Int64} (h : DX8_set I J a0 a1 a2 = some (r, I', J')) : am_F 1 nX8_set [.ref 0, .int a0, .int a1, .long a2, .retAddr 0] (TM, I, J, RM) (some (.int r)) (TM, I', J', RM) := by
  unfold DX8_set at h
  unfold am_F
  refine am_E.go (n := 1) rfl ?_
  refine am_E.callF rfl (by decide) (axX8_isShelf rfl) ?_
  refine am_E.brk rfl (fun hp => ?_) (fun hp => ?_)
  · have h := (if_pos hp).symm.trans h
    refine am_E.go (n := 2) rfl ?_
    obtain ⟨hg, h⟩ := am_ifI h
    refine am_E.grd rfl hg ?_
    refine am_E.go (n := 0) rfl ?_
    refine am_E.brk rfl (fun hp => ?_) (fun hp => ?_)
    · have h := (if_pos hp).symm.trans h
      refine am_E.go (n := 2) rfl ?_
      obtain ⟨hg, h⟩ := am_ifI h
      refine am_E.grd rfl hg ?_
      refine am_E.brk rfl (fun hp => ?_) (fun hp => ?_)
      · have h := (if_pos hp).symm.trans h
        refine am_E.go (n := 0) rfl ?_
        refine am_E.brk rfl (fun hp => ?_) (fun hp => ?_)
        · have h := (if_pos hp).symm.trans h
          refine am_E.go (n := 1) rfl ?_
          obtain ⟨q1, hq, h⟩ := am_bindI h
          obtain ⟨q1_1, q1_2, q1_3⟩ := q1
          refine am_E.callF rfl (by decide) (axX8_no hq) ?_
          cases h
          exact am_E.ret rfl ⟨rfl, rfl⟩
        · have h := (if_neg hp).symm.trans h
          refine am_E.go (n := 3) rfl ?_
          obtain ⟨hg, h⟩ := am_ifI h
          refine am_E.grd rfl hg ?_
          refine am_E.brk rfl (fun hp => ?_) (fun hp => ?_)
          · have h := (if_pos hp).symm.trans h
            refine am_E.go (n := 9) rfl ?_
            obtain ⟨hg, h⟩ := am_ifI h
            refine am_E.grd rfl hg ?_
            refine am_E.brk rfl (fun hp => ?_) (fun hp => ?_)
            · have h := (if_pos hp).symm.trans h
              refine am_E.go (n := 2) rfl ?_
              obtain ⟨hg, h⟩ := am_ifI h
              refine am_E.grd rfl hg ?_
              refine am_E.go (n := 0) rfl ?_
              refine am_E.brk rfl (fun hp => ?_) (fun hp => ?_)
              · have h := (if_pos hp).symm.trans h
                refine am_E.go (n := 2) rfl ?_
                obtain ⟨hg, h⟩ := am_ifI h
                refine am_E.grd rfl hg ?_
                refine am_E.go (n := 0) rfl ?_
                refine am_E.brk rfl (fun hp => ?_) (fun hp => ?_)
                · have h := (if_pos hp).symm.trans h
                  refine am_E.go (n := 0) rfl ?_
                  obtain ⟨hg, h⟩ := am_ifI h
                  refine am_E.grd rfl hg ?_
                  refine am_E.go (n := 0) rfl ?_
                  cases h
                  exact am_E.ret rfl ⟨rfl, rfl⟩
                · have h := (if_neg hp).symm.trans h
                  refine am_E.go (n := 3) rfl ?_
                  obtain ⟨hg, h⟩ := am_ifI h
                  refine am_E.grd rfl hg ?_
                  refine am_E.go (n := 0) rfl ?_
                  cases h
                  exact am_E.ret rfl ⟨rfl, rfl⟩
              · have h := (if_neg hp).symm.trans h
                refine am_E.go (n := 4) rfl ?_
                obtain ⟨hg, h⟩ := am_ifI h
                refine am_E.grd rfl hg ?_
                refine am_E.go (n := 0) rfl ?_
                cases h
                exact am_E.ret rfl ⟨rfl, rfl⟩
            · have h := (if_neg hp).symm.trans h
              refine am_E.go (n := 4) rfl ?_
              obtain ⟨hg, h⟩ := am_ifI h
              refine am_E.grd rfl hg ?_
              refine am_E.go (n := 0) rfl ?_
              cases h
              exact am_E.ret rfl ⟨rfl, rfl⟩
          · have h := (if_neg hp).symm.trans h
            refine am_E.go (n := 1) rfl ?_
            obtain ⟨q2, hq, h⟩ := am_bindI h
            obtain ⟨q2_1, q2_2, q2_3⟩ := q2
            refine am_E.callF rfl (by decide) (axX8_no hq) ?_
            cases h
            exact am_E.ret rfl ⟨rfl, rfl⟩
      · have h := (if_neg hp).symm.trans h
        refine am_E.go (n := 1) rfl ?_
        obtain ⟨q3, hq, h⟩ := am_bindI h
        obtain ⟨q3_1, q3_2, q3_3⟩ := q3
        refine am_E.callF rfl (by decide) (axX8_no hq) ?_
        cases h
        exact am_E.ret rfl ⟨rfl, rfl⟩
    · have h := (if_neg hp).symm.trans h
      refine am_E.go (n := 1) rfl ?_
      obtain ⟨q4, hq, h⟩ := am_bindI h
      obtain ⟨q4_1, q4_2, q4_3⟩ := q4
      refine am_E.callF rfl (by decide) (axX8_no hq) ?_
      cases h
      exact am_E.ret rfl ⟨rfl, rfl⟩
  · have h := (if_neg hp).symm.trans h
    refine am_E.go (n := 1) rfl ?_
    obtain ⟨q5, hq, h⟩ := am_bindI h
    obtain ⟨q5_1, q5_2, q5_3⟩ := q5
    refine am_E.callF rfl (by decide) (axX8_no hq) ?_
    cases h
    exact am_E.ret rfl ⟨rfl, rfl⟩
def LX8_copy : Nat → Nat → (Nat → Nat → Int32) → (Nat → Nat → Int64) → Int32 → Int32 → Int32 → Int32 → Int32 → Int32 → Option (Int32 × (Nat → Nat → Int32) × (Nat → Nat → Int64))
  | 0, _, _, _, _, _, _, _, _, _ => none
  | n + 1, 0, I, J, x1, x2, x3, x4, x5, x6 =>
    if x5 ≤ x6 then
      LX8_copy n 1 I J 0 x2 0 x4 x5 ((0 : Int32))
    else
      if ¬ (((((160 : Int32) * x1) + x3) + x6) < 0 ∨ 1280 ≤ (((((160 : Int32) * x1) + x3) + x6)).toNatClampNeg) then
        if ¬ (x6 < 0 ∨ 160 ≤ (x6).toNatClampNeg) then
          LX8_copy n 0 I ((am_upJ J 16 (x6).toNatClampNeg (J 15 (((((160 : Int32) * x1) + x3) + x6)).toNatClampNeg))) x1 x2 x3 x4 x5 ((x6 + (1 : Int32)))
        else none
      else none
  | n + 1, _, I, J, x1, x2, x3, x4, x5, x6 =>
    if x5 ≤ x6 then
      some ((1 : Int32), I, J)
    else
      if ¬ (x6 < 0 ∨ 160 ≤ (x6).toNatClampNeg) then
        if ¬ (((((160 : Int32) * x2) + x4) + x6) < 0 ∨ 1280 ≤ (((((160 : Int32) * x2) + x4) + x6)).toNatClampNeg) then
          LX8_copy n 1 I ((am_upJ J 15 (((((160 : Int32) * x2) + x4) + x6)).toNatClampNeg (J 16 (x6).toNatClampNeg))) 0 x2 0 x4 x5 ((x6 + (1 : Int32)))
        else none
      else none
def DX8_copy (I : Nat → Nat → Int32) (J : Nat → Nat → Int64) (a0 : Int32) (a1 : Int32) (a2 : Int32) (a3 : Int32) (a4 : Int32) : Option (Int32 × (Nat → Nat → Int32) × (Nat → Nat → Int64)) :=
  if (DX8_isShelf a0) = 0 then
    (DX8_no I J ((-1 : Int32))).bind fun q1 =>
    some (q1.1, q1.2.1, q1.2.2)
  else
    if ¬ (DX8_isShelf a1) = 0 then
      if ¬ (a0 < 0 ∨ 8 ≤ (a0).toNatClampNeg) then
        if (I 11 (a0).toNatClampNeg) = (2 : Int32) then
          (DX8_no I J ((-2 : Int32))).bind fun q2 =>
          some (q2.1, q2.2.1, q2.2.2)
        else
          if ¬ (a1 < 0 ∨ 8 ≤ (a1).toNatClampNeg) then
            if (I 11 (a1).toNatClampNeg) = (2 : Int32) then
              (DX8_no I J ((-2 : Int32))).bind fun q3 =>
              some (q3.1, q3.2.1, q3.2.2)
            else
              if ¬ (a0 < 0 ∨ 8 ≤ (a0).toNatClampNeg) then
                if ¬ (I 11 (a0).toNatClampNeg) = (1 : Int32) then
                  if ¬ (a0 < 0 ∨ 8 ≤ (a0).toNatClampNeg) then
                    if (I 11 (a0).toNatClampNeg) = 0 then
                      (DX8_no I J ((-3 : Int32))).bind fun q4 =>
                      some (q4.1, q4.2.1, q4.2.2)
                    else
                      if ¬ (a1 < 0 ∨ 8 ≤ (a1).toNatClampNeg) then
                        if ¬ (I 11 (a1).toNatClampNeg) = 0 then
                          if 0 ≤ a4 then
                            if a2 < 0 then
                              (DX8_no I J ((-5 : Int32))).bind fun q5 =>
                              some (q5.1, q5.2.1, q5.2.2)
                            else
                              if a3 < 0 then
                                (DX8_no I J ((-5 : Int32))).bind fun q6 =>
                                some (q6.1, q6.2.1, q6.2.2)
                              else
                                if ¬ (a0 < 0 ∨ 8 ≤ (a0).toNatClampNeg) then
                                  if ((I 13 (a0).toNatClampNeg) - a4) < a2 then
                                    (DX8_no I J ((-5 : Int32))).bind fun q7 =>
                                    some (q7.1, q7.2.1, q7.2.2)
                                  else
                                    if ¬ (a1 < 0 ∨ 8 ≤ (a1).toNatClampNeg) then
                                      if a3 ≤ ((I 13 (a1).toNatClampNeg) - a4) then
                                        LX8_copy am_FU 0 I J a0 a1 a2 a3 a4 ((0 : Int32))
                                      else
                                        (DX8_no I J ((-5 : Int32))).bind fun q8 =>
                                        some (q8.1, q8.2.1, q8.2.2)
                                    else none
                                else none
                          else
                            (DX8_no I J ((-4 : Int32))).bind fun q9 =>
                            some (q9.1, q9.2.1, q9.2.2)
                        else
                          (DX8_no I J ((-3 : Int32))).bind fun q10 =>
                          some (q10.1, q10.2.1, q10.2.2)
                      else none
                  else none
                else
                  if ¬ (a1 < 0 ∨ 8 ≤ (a1).toNatClampNeg) then
                    if ¬ (I 11 (a1).toNatClampNeg) = (1 : Int32) then
                      if ¬ (a0 < 0 ∨ 8 ≤ (a0).toNatClampNeg) then
                        if (I 11 (a0).toNatClampNeg) = 0 then
                          (DX8_no I J ((-3 : Int32))).bind fun q11 =>
                          some (q11.1, q11.2.1, q11.2.2)
                        else
                          if ¬ (a1 < 0 ∨ 8 ≤ (a1).toNatClampNeg) then
                            if ¬ (I 11 (a1).toNatClampNeg) = 0 then
                              if 0 ≤ a4 then
                                if a2 < 0 then
                                  (DX8_no I J ((-5 : Int32))).bind fun q12 =>
                                  some (q12.1, q12.2.1, q12.2.2)
                                else
                                  if a3 < 0 then
                                    (DX8_no I J ((-5 : Int32))).bind fun q13 =>
                                    some (q13.1, q13.2.1, q13.2.2)
                                  else
                                    if ¬ (a0 < 0 ∨ 8 ≤ (a0).toNatClampNeg) then
                                      if ((I 13 (a0).toNatClampNeg) - a4) < a2 then
                                        (DX8_no I J ((-5 : Int32))).bind fun q14 =>
                                        some (q14.1, q14.2.1, q14.2.2)
                                      else
                                        if ¬ (a1 < 0 ∨ 8 ≤ (a1).toNatClampNeg) then
                                          if a3 ≤ ((I 13 (a1).toNatClampNeg) - a4) then
                                            LX8_copy am_FU 0 I J a0 a1 a2 a3 a4 ((0 : Int32))
                                          else
                                            (DX8_no I J ((-5 : Int32))).bind fun q15 =>
                                            some (q15.1, q15.2.1, q15.2.2)
                                        else none
                                    else none
                              else
                                (DX8_no I J ((-4 : Int32))).bind fun q16 =>
                                some (q16.1, q16.2.1, q16.2.2)
                            else
                              (DX8_no I J ((-3 : Int32))).bind fun q17 =>
                              some (q17.1, q17.2.1, q17.2.2)
                          else none
                      else none
                    else
                      if ¬ (a0 < 0 ∨ 8 ≤ (a0).toNatClampNeg) then
                        if ¬ (a1 < 0 ∨ 8 ≤ (a1).toNatClampNeg) then
                          if (I 12 (a0).toNatClampNeg) = (I 12 (a1).toNatClampNeg) then
                            if ¬ (a0 < 0 ∨ 8 ≤ (a0).toNatClampNeg) then
                              if (I 11 (a0).toNatClampNeg) = 0 then
                                (DX8_no I J ((-3 : Int32))).bind fun q18 =>
                                some (q18.1, q18.2.1, q18.2.2)
                              else
                                if ¬ (a1 < 0 ∨ 8 ≤ (a1).toNatClampNeg) then
                                  if ¬ (I 11 (a1).toNatClampNeg) = 0 then
                                    if 0 ≤ a4 then
                                      if a2 < 0 then
                                        (DX8_no I J ((-5 : Int32))).bind fun q19 =>
                                        some (q19.1, q19.2.1, q19.2.2)
                                      else
                                        if a3 < 0 then
                                          (DX8_no I J ((-5 : Int32))).bind fun q20 =>
                                          some (q20.1, q20.2.1, q20.2.2)
                                        else
                                          if ¬ (a0 < 0 ∨ 8 ≤ (a0).toNatClampNeg) then
                                            if ((I 13 (a0).toNatClampNeg) - a4) < a2 then
                                              (DX8_no I J ((-5 : Int32))).bind fun q21 =>
                                              some (q21.1, q21.2.1, q21.2.2)
                                            else
                                              if ¬ (a1 < 0 ∨ 8 ≤ (a1).toNatClampNeg) then
                                                if a3 ≤ ((I 13 (a1).toNatClampNeg) - a4) then
                                                  LX8_copy am_FU 0 I J a0 a1 a2 a3 a4 ((0 : Int32))
                                                else
                                                  (DX8_no I J ((-5 : Int32))).bind fun q22 =>
                                                  some (q22.1, q22.2.1, q22.2.2)
                                              else none
                                          else none
                                    else
                                      (DX8_no I J ((-4 : Int32))).bind fun q23 =>
                                      some (q23.1, q23.2.1, q23.2.2)
                                  else
                                    (DX8_no I J ((-3 : Int32))).bind fun q24 =>
                                    some (q24.1, q24.2.1, q24.2.2)
                                else none
                            else none
                          else
                            (DX8_no I J ((-2 : Int32))).bind fun q25 =>
                            some (q25.1, q25.2.1, q25.2.2)
                        else none
                      else none
                  else none
              else none
          else none
      else none
    else
      (DX8_no I J ((-1 : Int32))).bind fun q26 =>
      some (q26.1, q26.2.1, q26.2.2)
set_option maxHeartbeats 4000000 in
set_option maxRecDepth 100000 in
theorem alX8_copy : ∀ (n : Nat), (∀ {I : Nat → Nat → Int32} {J : Nat → Nat → Int64} {x1 : Int32} {x2 : Int32} {x3 : Int32} {x4 : Int32} {x5 : Int32} {x6 : Int32} {I' : Nat → Nat → Int32} {J' : Nat → Nat → Int64} {r : Int32}, LX8_copy n 0 I J x1 x2 x3 x4 x5 x6 = some (r, I', J') → am_E 1 nX8_copy (167, [.ref 0, .int x1, .int x2, .int x3, .int x4, .int x5, .int x6], [], (TM, I, J, RM)) (fun v M' => v = some (.int r) ∧ M' = (TM, I', J', RM))) ∧
    (∀ {I : Nat → Nat → Int32} {J : Nat → Nat → Int64} {x1 : Int32} {x2 : Int32} {x3 : Int32} {x4 : Int32} {x5 : Int32} {x6 : Int32} {I' : Nat → Nat → Int32} {J' : Nat → Nat → Int64} {r : Int32}, LX8_copy n 1 I J x1 x2 x3 x4 x5 x6 = some (r, I', J') → am_E 1 nX8_copy (205, [.ref 0, .retAddr 0, .int x2, .retAddr 0, .int x4, .int x5, .int x6], [], (TM, I, J, RM)) (fun v M' => v = some (.int r) ∧ M' = (TM, I', J', RM))) := by
  intro n
  induction n with
  | zero => exact ⟨by intros; contradiction, by intros; contradiction⟩
  | succ n ih =>
    refine ⟨?_, ?_⟩
    · intro I J x1 x2 x3 x4 x5 x6 I' J' r h
      simp only [LX8_copy] at h
      refine am_E.go (n := 1) rfl ?_
      refine am_E.brk rfl (fun hp => ?_) (fun hp => ?_)
      · have h := (if_pos hp).symm.trans h
        refine am_E.go (n := 1) rfl ?_
        refine am_E.less (ls0 := [_, .retAddr 0, _, .retAddr 0, _, _, _]) ?_ ⟨Or.inl rfl, Or.inr ⟨rfl, rfl⟩, Or.inl rfl, Or.inr ⟨rfl, rfl⟩, Or.inl rfl, Or.inl rfl, Or.inl rfl, trivial⟩
        exact ih.2 h
      · have h := (if_neg hp).symm.trans h
        refine am_E.go (n := 11) rfl ?_
        obtain ⟨hg, h⟩ := am_ifI h
        refine am_E.grd rfl hg ?_
        obtain ⟨hg, h⟩ := am_ifI h
        refine am_E.grd rfl hg ?_
        refine am_E.go (n := 1) rfl ?_
        exact ih.1 h
    · intro I J x1 x2 x3 x4 x5 x6 I' J' r h
      simp only [LX8_copy] at h
      refine am_E.go (n := 1) rfl ?_
      refine am_E.brk rfl (fun hp => ?_) (fun hp => ?_)
      · have h := (if_pos hp).symm.trans h
        refine am_E.go (n := 0) rfl ?_
        cases h
        exact am_E.ret rfl ⟨rfl, rfl⟩
      · have h := (if_neg hp).symm.trans h
        refine am_E.go (n := 11) rfl ?_
        obtain ⟨hg, h⟩ := am_ifI h
        refine am_E.grd rfl hg ?_
        obtain ⟨hg, h⟩ := am_ifI h
        refine am_E.grd rfl hg ?_
        refine am_E.go (n := 1) rfl ?_
        exact ih.2 h
set_option maxHeartbeats 4000000 in
set_option maxRecDepth 100000 in
theorem axX8_copy {I : Nat → Nat → Int32} {J : Nat → Nat → Int64} {a0 : Int32} {a1 : Int32} {a2 : Int32} {a3 : Int32} {a4 : Int32} {r : Int32} {I' : Nat → Nat → Int32} {J' : Nat → Nat → Int64} (h : DX8_copy I J a0 a1 a2 a3 a4 = some (r, I', J')) : am_F 1 nX8_copy [.ref 0, .int a0, .int a1, .int a2, .int a3, .int a4, .retAddr 0] (TM, I, J, RM) (some (.int r)) (TM, I', J', RM) := by
  unfold DX8_copy at h
  unfold am_F
  refine am_E.go (n := 1) rfl ?_
  refine am_E.callF rfl (by decide) (axX8_isShelf rfl) ?_
  refine am_E.brk rfl (fun hp => ?_) (fun hp => ?_)
  · have h := (if_pos hp).symm.trans h
    refine am_E.go (n := 1) rfl ?_
    obtain ⟨q1, hq, h⟩ := am_bindI h
    obtain ⟨q1_1, q1_2, q1_3⟩ := q1
    refine am_E.callF rfl (by decide) (axX8_no hq) ?_
    cases h
    exact am_E.ret rfl ⟨rfl, rfl⟩
  · have h := (if_neg hp).symm.trans h
    refine am_E.go (n := 1) rfl ?_
    refine am_E.callF rfl (by decide) (axX8_isShelf rfl) ?_
    refine am_E.brk rfl (fun hp => ?_) (fun hp => ?_)
    · have h := (if_pos hp).symm.trans h
      refine am_E.go (n := 2) rfl ?_
      obtain ⟨hg, h⟩ := am_ifI h
      refine am_E.grd rfl hg ?_
      refine am_E.go (n := 0) rfl ?_
      refine am_E.brk rfl (fun hp => ?_) (fun hp => ?_)
      · have h := (if_pos hp).symm.trans h
        refine am_E.go (n := 1) rfl ?_
        obtain ⟨q2, hq, h⟩ := am_bindI h
        obtain ⟨q2_1, q2_2, q2_3⟩ := q2
        refine am_E.callF rfl (by decide) (axX8_no hq) ?_
        cases h
        exact am_E.ret rfl ⟨rfl, rfl⟩
      · have h := (if_neg hp).symm.trans h
        refine am_E.go (n := 2) rfl ?_
        obtain ⟨hg, h⟩ := am_ifI h
        refine am_E.grd rfl hg ?_
        refine am_E.go (n := 0) rfl ?_
        refine am_E.brk rfl (fun hp => ?_) (fun hp => ?_)
        · have h := (if_pos hp).symm.trans h
          refine am_E.go (n := 1) rfl ?_
          obtain ⟨q3, hq, h⟩ := am_bindI h
          obtain ⟨q3_1, q3_2, q3_3⟩ := q3
          refine am_E.callF rfl (by decide) (axX8_no hq) ?_
          cases h
          exact am_E.ret rfl ⟨rfl, rfl⟩
        · have h := (if_neg hp).symm.trans h
          refine am_E.go (n := 2) rfl ?_
          obtain ⟨hg, h⟩ := am_ifI h
          refine am_E.grd rfl hg ?_
          refine am_E.go (n := 0) rfl ?_
          refine am_E.brk rfl (fun hp => ?_) (fun hp => ?_)
          · have h := (if_pos hp).symm.trans h
            refine am_E.go (n := 2) rfl ?_
            obtain ⟨hg, h⟩ := am_ifI h
            refine am_E.grd rfl hg ?_
            refine am_E.brk rfl (fun hp => ?_) (fun hp => ?_)
            · have h := (if_pos hp).symm.trans h
              refine am_E.go (n := 1) rfl ?_
              obtain ⟨q4, hq, h⟩ := am_bindI h
              obtain ⟨q4_1, q4_2, q4_3⟩ := q4
              refine am_E.callF rfl (by decide) (axX8_no hq) ?_
              cases h
              exact am_E.ret rfl ⟨rfl, rfl⟩
            · have h := (if_neg hp).symm.trans h
              refine am_E.go (n := 2) rfl ?_
              obtain ⟨hg, h⟩ := am_ifI h
              refine am_E.grd rfl hg ?_
              refine am_E.brk rfl (fun hp => ?_) (fun hp => ?_)
              · have h := (if_pos hp).symm.trans h
                refine am_E.go (n := 0) rfl ?_
                refine am_E.brk rfl (fun hp => ?_) (fun hp => ?_)
                · have h := (if_pos hp).symm.trans h
                  refine am_E.go (n := 0) rfl ?_
                  refine am_E.brk rfl (fun hp => ?_) (fun hp => ?_)
                  · have h := (if_pos hp).symm.trans h
                    refine am_E.go (n := 1) rfl ?_
                    obtain ⟨q5, hq, h⟩ := am_bindI h
                    obtain ⟨q5_1, q5_2, q5_3⟩ := q5
                    refine am_E.callF rfl (by decide) (axX8_no hq) ?_
                    cases h
                    exact am_E.ret rfl ⟨rfl, rfl⟩
                  · have h := (if_neg hp).symm.trans h
                    refine am_E.go (n := 0) rfl ?_
                    refine am_E.brk rfl (fun hp => ?_) (fun hp => ?_)
                    · have h := (if_pos hp).symm.trans h
                      refine am_E.go (n := 1) rfl ?_
                      obtain ⟨q6, hq, h⟩ := am_bindI h
                      obtain ⟨q6_1, q6_2, q6_3⟩ := q6
                      refine am_E.callF rfl (by decide) (axX8_no hq) ?_
                      cases h
                      exact am_E.ret rfl ⟨rfl, rfl⟩
                    · have h := (if_neg hp).symm.trans h
                      refine am_E.go (n := 3) rfl ?_
                      obtain ⟨hg, h⟩ := am_ifI h
                      refine am_E.grd rfl hg ?_
                      refine am_E.go (n := 1) rfl ?_
                      refine am_E.brk rfl (fun hp => ?_) (fun hp => ?_)
                      · have h := (if_pos hp).symm.trans h
                        refine am_E.go (n := 1) rfl ?_
                        obtain ⟨q7, hq, h⟩ := am_bindI h
                        obtain ⟨q7_1, q7_2, q7_3⟩ := q7
                        refine am_E.callF rfl (by decide) (axX8_no hq) ?_
                        cases h
                        exact am_E.ret rfl ⟨rfl, rfl⟩
                      · have h := (if_neg hp).symm.trans h
                        refine am_E.go (n := 3) rfl ?_
                        obtain ⟨hg, h⟩ := am_ifI h
                        refine am_E.grd rfl hg ?_
                        refine am_E.go (n := 1) rfl ?_
                        refine am_E.brk rfl (fun hp => ?_) (fun hp => ?_)
                        · have h := (if_pos hp).symm.trans h
                          refine am_E.go (n := 1) rfl ?_
                          exact (alX8_copy am_FU).1 h
                        · have h := (if_neg hp).symm.trans h
                          refine am_E.go (n := 1) rfl ?_
                          obtain ⟨q8, hq, h⟩ := am_bindI h
                          obtain ⟨q8_1, q8_2, q8_3⟩ := q8
                          refine am_E.callF rfl (by decide) (axX8_no hq) ?_
                          cases h
                          exact am_E.ret rfl ⟨rfl, rfl⟩
                · have h := (if_neg hp).symm.trans h
                  refine am_E.go (n := 1) rfl ?_
                  obtain ⟨q9, hq, h⟩ := am_bindI h
                  obtain ⟨q9_1, q9_2, q9_3⟩ := q9
                  refine am_E.callF rfl (by decide) (axX8_no hq) ?_
                  cases h
                  exact am_E.ret rfl ⟨rfl, rfl⟩
              · have h := (if_neg hp).symm.trans h
                refine am_E.go (n := 1) rfl ?_
                obtain ⟨q10, hq, h⟩ := am_bindI h
                obtain ⟨q10_1, q10_2, q10_3⟩ := q10
                refine am_E.callF rfl (by decide) (axX8_no hq) ?_
                cases h
                exact am_E.ret rfl ⟨rfl, rfl⟩
          · have h := (if_neg hp).symm.trans h
            refine am_E.go (n := 2) rfl ?_
            obtain ⟨hg, h⟩ := am_ifI h
            refine am_E.grd rfl hg ?_
            refine am_E.go (n := 0) rfl ?_
            refine am_E.brk rfl (fun hp => ?_) (fun hp => ?_)
            · have h := (if_pos hp).symm.trans h
              refine am_E.go (n := 2) rfl ?_
              obtain ⟨hg, h⟩ := am_ifI h
              refine am_E.grd rfl hg ?_
              refine am_E.brk rfl (fun hp => ?_) (fun hp => ?_)
              · have h := (if_pos hp).symm.trans h
                refine am_E.go (n := 1) rfl ?_
                obtain ⟨q11, hq, h⟩ := am_bindI h
                obtain ⟨q11_1, q11_2, q11_3⟩ := q11
                refine am_E.callF rfl (by decide) (axX8_no hq) ?_
                cases h
                exact am_E.ret rfl ⟨rfl, rfl⟩
              · have h := (if_neg hp).symm.trans h
                refine am_E.go (n := 2) rfl ?_
                obtain ⟨hg, h⟩ := am_ifI h
                refine am_E.grd rfl hg ?_
                refine am_E.brk rfl (fun hp => ?_) (fun hp => ?_)
                · have h := (if_pos hp).symm.trans h
                  refine am_E.go (n := 0) rfl ?_
                  refine am_E.brk rfl (fun hp => ?_) (fun hp => ?_)
                  · have h := (if_pos hp).symm.trans h
                    refine am_E.go (n := 0) rfl ?_
                    refine am_E.brk rfl (fun hp => ?_) (fun hp => ?_)
                    · have h := (if_pos hp).symm.trans h
                      refine am_E.go (n := 1) rfl ?_
                      obtain ⟨q12, hq, h⟩ := am_bindI h
                      obtain ⟨q12_1, q12_2, q12_3⟩ := q12
                      refine am_E.callF rfl (by decide) (axX8_no hq) ?_
                      cases h
                      exact am_E.ret rfl ⟨rfl, rfl⟩
                    · have h := (if_neg hp).symm.trans h
                      refine am_E.go (n := 0) rfl ?_
                      refine am_E.brk rfl (fun hp => ?_) (fun hp => ?_)
                      · have h := (if_pos hp).symm.trans h
                        refine am_E.go (n := 1) rfl ?_
                        obtain ⟨q13, hq, h⟩ := am_bindI h
                        obtain ⟨q13_1, q13_2, q13_3⟩ := q13
                        refine am_E.callF rfl (by decide) (axX8_no hq) ?_
                        cases h
                        exact am_E.ret rfl ⟨rfl, rfl⟩
                      · have h := (if_neg hp).symm.trans h
                        refine am_E.go (n := 3) rfl ?_
                        obtain ⟨hg, h⟩ := am_ifI h
                        refine am_E.grd rfl hg ?_
                        refine am_E.go (n := 1) rfl ?_
                        refine am_E.brk rfl (fun hp => ?_) (fun hp => ?_)
                        · have h := (if_pos hp).symm.trans h
                          refine am_E.go (n := 1) rfl ?_
                          obtain ⟨q14, hq, h⟩ := am_bindI h
                          obtain ⟨q14_1, q14_2, q14_3⟩ := q14
                          refine am_E.callF rfl (by decide) (axX8_no hq) ?_
                          cases h
                          exact am_E.ret rfl ⟨rfl, rfl⟩
                        · have h := (if_neg hp).symm.trans h
                          refine am_E.go (n := 3) rfl ?_
                          obtain ⟨hg, h⟩ := am_ifI h
                          refine am_E.grd rfl hg ?_
                          refine am_E.go (n := 1) rfl ?_
                          refine am_E.brk rfl (fun hp => ?_) (fun hp => ?_)
                          · have h := (if_pos hp).symm.trans h
                            refine am_E.go (n := 1) rfl ?_
                            exact (alX8_copy am_FU).1 h
                          · have h := (if_neg hp).symm.trans h
                            refine am_E.go (n := 1) rfl ?_
                            obtain ⟨q15, hq, h⟩ := am_bindI h
                            obtain ⟨q15_1, q15_2, q15_3⟩ := q15
                            refine am_E.callF rfl (by decide) (axX8_no hq) ?_
                            cases h
                            exact am_E.ret rfl ⟨rfl, rfl⟩
                  · have h := (if_neg hp).symm.trans h
                    refine am_E.go (n := 1) rfl ?_
                    obtain ⟨q16, hq, h⟩ := am_bindI h
                    obtain ⟨q16_1, q16_2, q16_3⟩ := q16
                    refine am_E.callF rfl (by decide) (axX8_no hq) ?_
                    cases h
                    exact am_E.ret rfl ⟨rfl, rfl⟩
                · have h := (if_neg hp).symm.trans h
                  refine am_E.go (n := 1) rfl ?_
                  obtain ⟨q17, hq, h⟩ := am_bindI h
                  obtain ⟨q17_1, q17_2, q17_3⟩ := q17
                  refine am_E.callF rfl (by decide) (axX8_no hq) ?_
                  cases h
                  exact am_E.ret rfl ⟨rfl, rfl⟩
            · have h := (if_neg hp).symm.trans h
              refine am_E.go (n := 2) rfl ?_
              obtain ⟨hg, h⟩ := am_ifI h
              refine am_E.grd rfl hg ?_
              refine am_E.go (n := 2) rfl ?_
              obtain ⟨hg, h⟩ := am_ifI h
              refine am_E.grd rfl hg ?_
              refine am_E.brk rfl (fun hp => ?_) (fun hp => ?_)
              · have h := (if_pos hp).symm.trans h
                refine am_E.go (n := 2) rfl ?_
                obtain ⟨hg, h⟩ := am_ifI h
                refine am_E.grd rfl hg ?_
                refine am_E.brk rfl (fun hp => ?_) (fun hp => ?_)
                · have h := (if_pos hp).symm.trans h
                  refine am_E.go (n := 1) rfl ?_
                  obtain ⟨q18, hq, h⟩ := am_bindI h
                  obtain ⟨q18_1, q18_2, q18_3⟩ := q18
                  refine am_E.callF rfl (by decide) (axX8_no hq) ?_
                  cases h
                  exact am_E.ret rfl ⟨rfl, rfl⟩
                · have h := (if_neg hp).symm.trans h
                  refine am_E.go (n := 2) rfl ?_
                  obtain ⟨hg, h⟩ := am_ifI h
                  refine am_E.grd rfl hg ?_
                  refine am_E.brk rfl (fun hp => ?_) (fun hp => ?_)
                  · have h := (if_pos hp).symm.trans h
                    refine am_E.go (n := 0) rfl ?_
                    refine am_E.brk rfl (fun hp => ?_) (fun hp => ?_)
                    · have h := (if_pos hp).symm.trans h
                      refine am_E.go (n := 0) rfl ?_
                      refine am_E.brk rfl (fun hp => ?_) (fun hp => ?_)
                      · have h := (if_pos hp).symm.trans h
                        refine am_E.go (n := 1) rfl ?_
                        obtain ⟨q19, hq, h⟩ := am_bindI h
                        obtain ⟨q19_1, q19_2, q19_3⟩ := q19
                        refine am_E.callF rfl (by decide) (axX8_no hq) ?_
                        cases h
                        exact am_E.ret rfl ⟨rfl, rfl⟩
                      · have h := (if_neg hp).symm.trans h
                        refine am_E.go (n := 0) rfl ?_
                        refine am_E.brk rfl (fun hp => ?_) (fun hp => ?_)
                        · have h := (if_pos hp).symm.trans h
                          refine am_E.go (n := 1) rfl ?_
                          obtain ⟨q20, hq, h⟩ := am_bindI h
                          obtain ⟨q20_1, q20_2, q20_3⟩ := q20
                          refine am_E.callF rfl (by decide) (axX8_no hq) ?_
                          cases h
                          exact am_E.ret rfl ⟨rfl, rfl⟩
                        · have h := (if_neg hp).symm.trans h
                          refine am_E.go (n := 3) rfl ?_
                          obtain ⟨hg, h⟩ := am_ifI h
                          refine am_E.grd rfl hg ?_
                          refine am_E.go (n := 1) rfl ?_
                          refine am_E.brk rfl (fun hp => ?_) (fun hp => ?_)
                          · have h := (if_pos hp).symm.trans h
                            refine am_E.go (n := 1) rfl ?_
                            obtain ⟨q21, hq, h⟩ := am_bindI h
                            obtain ⟨q21_1, q21_2, q21_3⟩ := q21
                            refine am_E.callF rfl (by decide) (axX8_no hq) ?_
                            cases h
                            exact am_E.ret rfl ⟨rfl, rfl⟩
                          · have h := (if_neg hp).symm.trans h
                            refine am_E.go (n := 3) rfl ?_
                            obtain ⟨hg, h⟩ := am_ifI h
                            refine am_E.grd rfl hg ?_
                            refine am_E.go (n := 1) rfl ?_
                            refine am_E.brk rfl (fun hp => ?_) (fun hp => ?_)
                            · have h := (if_pos hp).symm.trans h
                              refine am_E.go (n := 1) rfl ?_
                              exact (alX8_copy am_FU).1 h
                            · have h := (if_neg hp).symm.trans h
                              refine am_E.go (n := 1) rfl ?_
                              obtain ⟨q22, hq, h⟩ := am_bindI h
                              obtain ⟨q22_1, q22_2, q22_3⟩ := q22
                              refine am_E.callF rfl (by decide) (axX8_no hq) ?_
                              cases h
                              exact am_E.ret rfl ⟨rfl, rfl⟩
                    · have h := (if_neg hp).symm.trans h
                      refine am_E.go (n := 1) rfl ?_
                      obtain ⟨q23, hq, h⟩ := am_bindI h
                      obtain ⟨q23_1, q23_2, q23_3⟩ := q23
                      refine am_E.callF rfl (by decide) (axX8_no hq) ?_
                      cases h
                      exact am_E.ret rfl ⟨rfl, rfl⟩
                  · have h := (if_neg hp).symm.trans h
                    refine am_E.go (n := 1) rfl ?_
                    obtain ⟨q24, hq, h⟩ := am_bindI h
                    obtain ⟨q24_1, q24_2, q24_3⟩ := q24
                    refine am_E.callF rfl (by decide) (axX8_no hq) ?_
                    cases h
                    exact am_E.ret rfl ⟨rfl, rfl⟩
              · have h := (if_neg hp).symm.trans h
                refine am_E.go (n := 1) rfl ?_
                obtain ⟨q25, hq, h⟩ := am_bindI h
                obtain ⟨q25_1, q25_2, q25_3⟩ := q25
                refine am_E.callF rfl (by decide) (axX8_no hq) ?_
                cases h
                exact am_E.ret rfl ⟨rfl, rfl⟩
    · have h := (if_neg hp).symm.trans h
      refine am_E.go (n := 1) rfl ?_
      obtain ⟨q26, hq, h⟩ := am_bindI h
      obtain ⟨q26_1, q26_2, q26_3⟩ := q26
      refine am_E.callF rfl (by decide) (axX8_no hq) ?_
      cases h
      exact am_E.ret rfl ⟨rfl, rfl⟩
