/-! THE METHODS AS FUNCTIONS over the memory, and the row that their runs do so: laid by program (wip/whole/decomp.py) -/
def LX8_women : Nat → (Nat → Nat → Int32) → (Nat → Nat → Int64) → Int32 → Int32 → Option (Int32 × (Nat → Nat → Int32) × (Nat → Nat → Int64))
  | 0, _, _, _, _ => none
  | n + 1, I, J, x1, x2 =>
    if (6 : Int32) < x2 then
      some ((-1 : Int32), I, J)
    else
      (DX8_doneBy I J x2).bind fun q4 =>
      if x1 < q4.1 then
        LX8_women n q4.2.1 q4.2.2 x1 ((x2 + (1 : Int32)))
      else
        some (x2, q4.2.1, q4.2.2)
def DX8_women (I : Nat → Nat → Int32) (J : Nat → Nat → Int64) (a0 : Int32) : Option (Int32 × (Nat → Nat → Int32) × (Nat → Nat → Int64)) :=
  if a0 < 0 then
    (DX8_noTen I J ((-6 : Int32))).bind fun q1 =>
    some (q1.1, q1.2.1, q1.2.2)
  else
    if a0 ≤ (999 : Int32) then
      LX8_women am_FU I J a0 ((1 : Int32))
    else
      (DX8_noTen I J ((-6 : Int32))).bind fun q2 =>
      some (q2.1, q2.2.1, q2.2.2)
set_option maxHeartbeats 4000000 in
set_option maxRecDepth 100000 in
theorem alX8_women : ∀ (n : Nat), ∀ {I : Nat → Nat → Int32} {J : Nat → Nat → Int64} {x1 : Int32} {x2 : Int32} {I' : Nat → Nat → Int32} {J' : Nat → Nat → Int64} {r : Int32}, LX8_women n I J x1 x2 = some (r, I', J') → am_E 3 nX8_women (20, [.ref 0, .int x1, .int x2], [], (TM, I, J, RM)) (fun v M' => v = some (.int r) ∧ M' = (TM, I', J', RM)) := by
  intro n
  induction n with
  | zero => intros; contradiction
  | succ n ih =>
    intro I J x1 x2 I' J' r h
    simp only [LX8_women] at h
    refine am_E.go (n := 1) rfl ?_
    refine am_E.brk rfl (fun hp => ?_) (fun hp => ?_)
    · have h := (if_pos hp).symm.trans h
      refine am_E.go (n := 0) rfl ?_
      cases h
      exact am_E.ret rfl ⟨rfl, rfl⟩
    · have h := (if_neg hp).symm.trans h
      refine am_E.go (n := 1) rfl ?_
      obtain ⟨q4, hq, h⟩ := am_bindI h
      obtain ⟨q4_1, q4_2, q4_3⟩ := q4
      refine am_E.callF rfl (by decide) (axX8_doneBy hq) ?_
      refine am_E.go (n := 0) rfl ?_
      refine am_E.brk rfl (fun hp => ?_) (fun hp => ?_)
      · have h := (if_pos hp).symm.trans h
        refine am_E.go (n := 1) rfl ?_
        exact ih h
      · have h := (if_neg hp).symm.trans h
        refine am_E.go (n := 0) rfl ?_
        cases h
        exact am_E.ret rfl ⟨rfl, rfl⟩
set_option maxHeartbeats 4000000 in
set_option maxRecDepth 100000 in
theorem axX8_women {I : Nat → Nat → Int32} {J : Nat → Nat → Int64} {a0 : Int32} {r : Int32} {I' : Nat → Nat → Int32} {J' : Nat → Nat → Int64} (h : DX8_women I J a0 = some (r, I', J')) : am_F 3 nX8_women [.ref 0, .int a0, .retAddr 0] (TM, I, J, RM) (some (.int r)) (TM, I', J', RM) := by
  unfold DX8_women at h
  unfold am_F
  refine am_E.go (n := 0) rfl ?_
  refine am_E.brk rfl (fun hp => ?_) (fun hp => ?_)
  · have h := (if_pos hp).symm.trans h
    refine am_E.go (n := 1) rfl ?_
    obtain ⟨q1, hq, h⟩ := am_bindI h
    obtain ⟨q1_1, q1_2, q1_3⟩ := q1
    refine am_E.callF rfl (by decide) (axX8_noTen hq) ?_
    cases h
    exact am_E.ret rfl ⟨rfl, rfl⟩
  · have h := (if_neg hp).symm.trans h
    refine am_E.go (n := 1) rfl ?_
    refine am_E.brk rfl (fun hp => ?_) (fun hp => ?_)
    · have h := (if_pos hp).symm.trans h
      refine am_E.go (n := 1) rfl ?_
      exact (alX8_women am_FU) h
    · have h := (if_neg hp).symm.trans h
      refine am_E.go (n := 1) rfl ?_
      obtain ⟨q2, hq, h⟩ := am_bindI h
      obtain ⟨q2_1, q2_2, q2_3⟩ := q2
      refine am_E.callF rfl (by decide) (axX8_noTen hq) ?_
      cases h
      exact am_E.ret rfl ⟨rfl, rfl⟩
def LX8_dry : Nat → (Nat → Nat → Int32) → Int32 → Int32 → Option Int32
  | 0, _, _, _ => none
  | n + 1, I, x1, x2 =>
    if (240 : Int32) < x2 then
      some ((-1 : Int32))
    else
      if ¬ (DX8_dries I x1) = 0 then
        LX8_dry n I ((DX8_dries I x1)) ((x2 + (1 : Int32)))
      else
        some x2
def DX8_dry (I : Nat → Nat → Int32) : Option Int32 :=
  LX8_dry am_FU I ((I 0 2)) ((1 : Int32))
set_option maxHeartbeats 4000000 in
set_option maxRecDepth 100000 in
theorem alX8_dry : ∀ (n : Nat), ∀ {I : Nat → Nat → Int32} {J : Nat → Nat → Int64} {x1 : Int32} {x2 : Int32} {r : Int32}, LX8_dry n I x1 x2 = some r → am_E 1 nX8_dry (7, [.ref 0, .int x1, .int x2], [], (TM, I, J, RM)) (fun v M' => v = some (.int r) ∧ M' = (TM, I, J, RM)) := by
  intro n
  induction n with
  | zero => intros; contradiction
  | succ n ih =>
    intro I J x1 x2 r h
    simp only [LX8_dry] at h
    refine am_E.go (n := 1) rfl ?_
    refine am_E.brk rfl (fun hp => ?_) (fun hp => ?_)
    · have h := (if_pos hp).symm.trans h
      refine am_E.go (n := 0) rfl ?_
      cases h
      exact am_E.ret rfl ⟨rfl, rfl⟩
    · have h := (if_neg hp).symm.trans h
      refine am_E.go (n := 1) rfl ?_
      refine am_E.callF rfl (by decide) (axX8_dries rfl) ?_
      refine am_E.go (n := 1) rfl ?_
      refine am_E.brk rfl (fun hp => ?_) (fun hp => ?_)
      · have h := (if_pos hp).symm.trans h
        refine am_E.go (n := 1) rfl ?_
        exact ih h
      · have h := (if_neg hp).symm.trans h
        refine am_E.go (n := 0) rfl ?_
        cases h
        exact am_E.ret rfl ⟨rfl, rfl⟩
set_option maxHeartbeats 4000000 in
set_option maxRecDepth 100000 in
theorem axX8_dry {I : Nat → Nat → Int32} {J : Nat → Nat → Int64} {r : Int32} (h : DX8_dry I = some r) : am_F 1 nX8_dry [.ref 0, .retAddr 0, .retAddr 0] (TM, I, J, RM) (some (.int r)) (TM, I, J, RM) := by
  unfold DX8_dry at h
  unfold am_F
  refine am_E.go (n := 4) rfl ?_
  exact (alX8_dry am_FU) h
def LX8_sprayings : Nat → Nat → (Nat → Nat → Int32) → (Nat → Nat → Int64) → Int32 → Int32 → Int32 → Int32 → Option (Int32 × (Nat → Nat → Int32) × (Nat → Nat → Int64))
  | 0, _, _, _, _, _, _, _ => none
  | n + 1, 0, I, J, x1, x2, x3, x4 =>
    if x1 ≤ x4 then
      some (x3, I, J)
    else
      LX8_sprayings n 1 I J x1 x2 x3 x4
  | n + 1, _, I, J, x1, x2, x3, x4 =>
    if ¬ (DX8_dries I x2) = 0 then
      LX8_sprayings n 0 I J x1 ((DX8_dries I x2)) x3 ((x4 + (1 : Int32)))
    else
      if x2 ≤ (89 : Int32) then
        LX8_sprayings n 1 I J x1 ((x2 + (10 : Int32))) ((x3 + (1 : Int32))) x4
      else
        LX8_sprayings n 1 I J x1 ((99 : Int32)) ((x3 + (1 : Int32))) x4
def DX8_sprayings (I : Nat → Nat → Int32) (J : Nat → Nat → Int64) (a0 : Int32) : Option (Int32 × (Nat → Nat → Int32) × (Nat → Nat → Int64)) :=
  if ¬ (DX8_isHour a0) = 0 then
    LX8_sprayings am_FU 0 I J a0 ((I 0 2)) ((0 : Int32)) ((0 : Int32))
  else
    (DX8_no I J ((-6 : Int32))).bind fun q1 =>
    some (q1.1, q1.2.1, q1.2.2)
set_option maxHeartbeats 4000000 in
set_option maxRecDepth 100000 in
theorem alX8_sprayings : ∀ (n : Nat), (∀ {I : Nat → Nat → Int32} {J : Nat → Nat → Int64} {x1 : Int32} {x2 : Int32} {x3 : Int32} {x4 : Int32} {I' : Nat → Nat → Int32} {J' : Nat → Nat → Int64} {r : Int32}, LX8_sprayings n 0 I J x1 x2 x3 x4 = some (r, I', J') → am_E 1 nX8_sprayings (25, [.ref 0, .int x1, .int x2, .int x3, .int x4], [], (TM, I, J, RM)) (fun v M' => v = some (.int r) ∧ M' = (TM, I', J', RM))) ∧
    (∀ {I : Nat → Nat → Int32} {J : Nat → Nat → Int64} {x1 : Int32} {x2 : Int32} {x3 : Int32} {x4 : Int32} {I' : Nat → Nat → Int32} {J' : Nat → Nat → Int64} {r : Int32}, LX8_sprayings n 1 I J x1 x2 x3 x4 = some (r, I', J') → am_E 1 nX8_sprayings (31, [.ref 0, .int x1, .int x2, .int x3, .int x4], [], (TM, I, J, RM)) (fun v M' => v = some (.int r) ∧ M' = (TM, I', J', RM))) := by
  intro n
  induction n with
  | zero => exact ⟨by intros; contradiction, by intros; contradiction⟩
  | succ n ih =>
    refine ⟨?_, ?_⟩
    · intro I J x1 x2 x3 x4 I' J' r h
      simp only [LX8_sprayings] at h
      refine am_E.go (n := 1) rfl ?_
      refine am_E.brk rfl (fun hp => ?_) (fun hp => ?_)
      · have h := (if_pos hp).symm.trans h
        refine am_E.go (n := 0) rfl ?_
        cases h
        exact am_E.ret rfl ⟨rfl, rfl⟩
      · have h := (if_neg hp).symm.trans h
        exact ih.2 h
    · intro I J x1 x2 x3 x4 I' J' r h
      simp only [LX8_sprayings] at h
      refine am_E.go (n := 1) rfl ?_
      refine am_E.callF rfl (by decide) (axX8_dries rfl) ?_
      refine am_E.brk rfl (fun hp => ?_) (fun hp => ?_)
      · have h := (if_pos hp).symm.trans h
        refine am_E.go (n := 1) rfl ?_
        refine am_E.callF rfl (by decide) (axX8_dries rfl) ?_
        refine am_E.go (n := 2) rfl ?_
        exact ih.1 h
      · have h := (if_neg hp).symm.trans h
        refine am_E.go (n := 1) rfl ?_
        refine am_E.brk rfl (fun hp => ?_) (fun hp => ?_)
        · have h := (if_pos hp).symm.trans h
          refine am_E.go (n := 5) rfl ?_
          exact ih.2 h
        · have h := (if_neg hp).symm.trans h
          refine am_E.go (n := 4) rfl ?_
          exact ih.2 h
set_option maxHeartbeats 4000000 in
set_option maxRecDepth 100000 in
theorem axX8_sprayings {I : Nat → Nat → Int32} {J : Nat → Nat → Int64} {a0 : Int32} {r : Int32} {I' : Nat → Nat → Int32} {J' : Nat → Nat → Int64} (h : DX8_sprayings I J a0 = some (r, I', J')) : am_F 1 nX8_sprayings [.ref 0, .int a0, .retAddr 0, .retAddr 0, .retAddr 0] (TM, I, J, RM) (some (.int r)) (TM, I', J', RM) := by
  unfold DX8_sprayings at h
  unfold am_F
  refine am_E.go (n := 1) rfl ?_
  refine am_E.callF rfl (by decide) (axX8_isHour rfl) ?_
  refine am_E.brk rfl (fun hp => ?_) (fun hp => ?_)
  · have h := (if_pos hp).symm.trans h
    refine am_E.go (n := 6) rfl ?_
    exact (alX8_sprayings am_FU).1 h
  · have h := (if_neg hp).symm.trans h
    refine am_E.go (n := 1) rfl ?_
    obtain ⟨q1, hq, h⟩ := am_bindI h
    obtain ⟨q1_1, q1_2, q1_3⟩ := q1
    refine am_E.callF rfl (by decide) (axX8_no hq) ?_
    cases h
    exact am_E.ret rfl ⟨rfl, rfl⟩
def LX8_was : Nat → (Nat → Nat → Int32) → (Nat → Nat → Int64) → Int32 → Int32 → Int32 → Int32 → Int32 → Int32 → Option (Int32 × (Nat → Nat → Int32) × (Nat → Nat → Int64))
  | 0, _, _, _, _, _, _, _, _ => none
  | n + 1, I, J, x1, x2, x3, x4, x5, x6 =>
    if (I 0 0) ≤ x6 then
      some (x5, I, J)
    else
      (DX8_freshOf I x6 x1 x2 x3).bind fun q8 =>
      if ¬ q8 = x4 then
        LX8_was n I J x1 x2 x3 x4 x5 ((x6 + (1 : Int32)))
      else
        LX8_was n I J x1 x2 x3 x4 ((x5 ||| ((1 : Int32) <<< (x6 &&& 31)))) ((x6 + (1 : Int32)))
def DX8_was (I : Nat → Nat → Int32) (J : Nat → Nat → Int64) (a0 : Int32) (a1 : Int32) (a2 : Int32) (a3 : Int32) : Option (Int32 × (Nat → Nat → Int32) × (Nat → Nat → Int64)) :=
  if (DX8_isHour a0) = 0 then
    (DX8_no I J ((-6 : Int32))).bind fun q1 =>
    some (q1.1, q1.2.1, q1.2.2)
  else
    if (DX8_isHour a1) = 0 then
      (DX8_no I J ((-6 : Int32))).bind fun q2 =>
      some (q2.1, q2.2.1, q2.2.2)
    else
      if a2 < 0 then
        (DX8_no I J ((-6 : Int32))).bind fun q3 =>
        some (q3.1, q3.2.1, q3.2.2)
      else
        if (20 : Int32) < a2 then
          (DX8_no I J ((-6 : Int32))).bind fun q4 =>
          some (q4.1, q4.2.1, q4.2.2)
        else
          if a3 < 0 then
            (DX8_no I J ((-6 : Int32))).bind fun q5 =>
            some (q5.1, q5.2.1, q5.2.2)
          else
            if a3 ≤ (9 : Int32) then
              LX8_was am_FU I J a0 a1 a2 a3 ((0 : Int32)) ((0 : Int32))
            else
              (DX8_no I J ((-6 : Int32))).bind fun q6 =>
              some (q6.1, q6.2.1, q6.2.2)
set_option maxHeartbeats 4000000 in
set_option maxRecDepth 100000 in
theorem alX8_was : ∀ (n : Nat), ∀ {I : Nat → Nat → Int32} {J : Nat → Nat → Int64} {x1 : Int32} {x2 : Int32} {x3 : Int32} {x4 : Int32} {x5 : Int32} {x6 : Int32} {I' : Nat → Nat → Int32} {J' : Nat → Nat → Int64} {r : Int32}, LX8_was n I J x1 x2 x3 x4 x5 x6 = some (r, I', J') → am_E 2 nX8_was (51, [.ref 0, .int x1, .int x2, .int x3, .int x4, .int x5, .int x6], [], (TM, I, J, RM)) (fun v M' => v = some (.int r) ∧ M' = (TM, I', J', RM)) := by
  intro n
  induction n with
  | zero => intros; contradiction
  | succ n ih =>
    intro I J x1 x2 x3 x4 x5 x6 I' J' r h
    simp only [LX8_was] at h
    refine am_E.go (n := 2) rfl ?_
    refine am_E.brk rfl (fun hp => ?_) (fun hp => ?_)
    · have h := (if_pos hp).symm.trans h
      refine am_E.go (n := 0) rfl ?_
      cases h
      exact am_E.ret rfl ⟨rfl, rfl⟩
    · have h := (if_neg hp).symm.trans h
      refine am_E.go (n := 4) rfl ?_
      obtain ⟨q8, hq, h⟩ := am_bindI h
      refine am_E.callF rfl (by decide) (axX8_freshOf hq) ?_
      refine am_E.go (n := 0) rfl ?_
      refine am_E.brk rfl (fun hp => ?_) (fun hp => ?_)
      · have h := (if_pos hp).symm.trans h
        refine am_E.go (n := 1) rfl ?_
        exact ih h
      · have h := (if_neg hp).symm.trans h
        refine am_E.go (n := 7) rfl ?_
        exact ih h
set_option maxHeartbeats 4000000 in
set_option maxRecDepth 100000 in
theorem axX8_was {I : Nat → Nat → Int32} {J : Nat → Nat → Int64} {a0 : Int32} {a1 : Int32} {a2 : Int32} {a3 : Int32} {r : Int32} {I' : Nat → Nat → Int32} {J' : Nat → Nat → Int64} (h : DX8_was I J a0 a1 a2 a3 = some (r, I', J')) : am_F 2 nX8_was [.ref 0, .int a0, .int a1, .int a2, .int a3, .retAddr 0, .retAddr 0] (TM, I, J, RM) (some (.int r)) (TM, I', J', RM) := by
  unfold DX8_was at h
  unfold am_F
  refine am_E.go (n := 1) rfl ?_
  refine am_E.callF rfl (by decide) (axX8_isHour rfl) ?_
  refine am_E.brk rfl (fun hp => ?_) (fun hp => ?_)
  · have h := (if_pos hp).symm.trans h
    refine am_E.go (n := 1) rfl ?_
    obtain ⟨q1, hq, h⟩ := am_bindI h
    obtain ⟨q1_1, q1_2, q1_3⟩ := q1
    refine am_E.callF rfl (by decide) (axX8_no hq) ?_
    cases h
    exact am_E.ret rfl ⟨rfl, rfl⟩
  · have h := (if_neg hp).symm.trans h
    refine am_E.go (n := 1) rfl ?_
    refine am_E.callF rfl (by decide) (axX8_isHour rfl) ?_
    refine am_E.brk rfl (fun hp => ?_) (fun hp => ?_)
    · have h := (if_pos hp).symm.trans h
      refine am_E.go (n := 1) rfl ?_
      obtain ⟨q2, hq, h⟩ := am_bindI h
      obtain ⟨q2_1, q2_2, q2_3⟩ := q2
      refine am_E.callF rfl (by decide) (axX8_no hq) ?_
      cases h
      exact am_E.ret rfl ⟨rfl, rfl⟩
    · have h := (if_neg hp).symm.trans h
      refine am_E.go (n := 0) rfl ?_
      refine am_E.brk rfl (fun hp => ?_) (fun hp => ?_)
      · have h := (if_pos hp).symm.trans h
        refine am_E.go (n := 1) rfl ?_
        obtain ⟨q3, hq, h⟩ := am_bindI h
        obtain ⟨q3_1, q3_2, q3_3⟩ := q3
        refine am_E.callF rfl (by decide) (axX8_no hq) ?_
        cases h
        exact am_E.ret rfl ⟨rfl, rfl⟩
      · have h := (if_neg hp).symm.trans h
        refine am_E.go (n := 1) rfl ?_
        refine am_E.brk rfl (fun hp => ?_) (fun hp => ?_)
        · have h := (if_pos hp).symm.trans h
          refine am_E.go (n := 1) rfl ?_
          obtain ⟨q4, hq, h⟩ := am_bindI h
          obtain ⟨q4_1, q4_2, q4_3⟩ := q4
          refine am_E.callF rfl (by decide) (axX8_no hq) ?_
          cases h
          exact am_E.ret rfl ⟨rfl, rfl⟩
        · have h := (if_neg hp).symm.trans h
          refine am_E.go (n := 0) rfl ?_
          refine am_E.brk rfl (fun hp => ?_) (fun hp => ?_)
          · have h := (if_pos hp).symm.trans h
            refine am_E.go (n := 1) rfl ?_
            obtain ⟨q5, hq, h⟩ := am_bindI h
            obtain ⟨q5_1, q5_2, q5_3⟩ := q5
            refine am_E.callF rfl (by decide) (axX8_no hq) ?_
            cases h
            exact am_E.ret rfl ⟨rfl, rfl⟩
          · have h := (if_neg hp).symm.trans h
            refine am_E.go (n := 1) rfl ?_
            refine am_E.brk rfl (fun hp => ?_) (fun hp => ?_)
            · have h := (if_pos hp).symm.trans h
              refine am_E.go (n := 3) rfl ?_
              exact (alX8_was am_FU) h
            · have h := (if_neg hp).symm.trans h
              refine am_E.go (n := 1) rfl ?_
              obtain ⟨q6, hq, h⟩ := am_bindI h
              obtain ⟨q6_1, q6_2, q6_3⟩ := q6
              refine am_E.callF rfl (by decide) (axX8_no hq) ?_
              cases h
              exact am_E.ret rfl ⟨rfl, rfl⟩
def LX8_age : Nat → Nat → (Nat → Nat → Int32) → (Nat → Nat → Int64) → Int32 → Int32 → Int32 → Int32 → Int32 → Option (Int32 × (Nat → Nat → Int32) × (Nat → Nat → Int64))
  | 0, _, _, _, _, _, _, _, _ => none
  | n + 1, 0, I, J, x1, x4, x5, x6, x7 =>
    if (240 : Int32) < x4 then
      some ((-1 : Int32), I, J)
    else
      LX8_age n 1 I J x1 x4 ((0 : Int32)) ((1 : Int32)) ((0 : Int32))
  | n + 1, _, I, J, x1, x4, x5, x6, x7 =>
    if (24 : Int32) ≤ x7 then
      if x6 = 0 then
        LX8_age n 0 I J x1 ((x4 + (1 : Int32))) 0 0 0
      else
        some (x4, I, J)
    else
      if x6 = 0 then
        if x6 = 0 then
          LX8_age n 0 I J x1 ((x4 + (1 : Int32))) 0 0 0
        else
          some (x4, I, J)
      else
        if ¬ (x7 < 0 ∨ 24 ≤ (x7).toNatClampNeg) then
          if ¬ (I 6 (x7).toNatClampNeg) = (-1 : Int32) then
            (DX8_freshAt I x7 x4).bind fun q8 =>
            (DX8_intAt J x1 x5).bind fun q9 =>
            if ¬ q8 = q9 then
              LX8_age n 1 I J x1 x4 ((x5 + (1 : Int32))) ((0 : Int32)) ((x7 + (1 : Int32)))
            else
              LX8_age n 1 I J x1 x4 ((x5 + (1 : Int32))) ((1 : Int32)) ((x7 + (1 : Int32)))
          else
            LX8_age n 1 I J x1 x4 x5 x6 ((x7 + (1 : Int32)))
        else none
def DX8_age (I : Nat → Nat → Int32) (J : Nat → Nat → Int64) (a0 : Int32) (a1 : Int32) : Option (Int32 × (Nat → Nat → Int32) × (Nat → Nat → Int64)) :=
  (DX8_bars I a0 a1).bind fun q1 =>
  if ¬ q1 = 0 then
    if q1 = 0 then
      LX8_age am_FU 0 I J a0 ((0 : Int32)) 0 0 0
    else
      (DX8_noTen I J q1).bind fun q2 =>
      some (q2.1, q2.2.1, q2.2.2)
  else
    (DX8_laidMany I).bind fun q3 =>
    if a1 = q3 then
      if q1 = 0 then
        LX8_age am_FU 0 I J a0 ((0 : Int32)) 0 0 0
      else
        (DX8_noTen I J q1).bind fun q4 =>
        some (q4.1, q4.2.1, q4.2.2)
    else
      (DX8_noTen I J ((-6 : Int32))).bind fun q5 =>
      some (q5.1, q5.2.1, q5.2.2)
set_option maxHeartbeats 4000000 in
set_option maxRecDepth 100000 in
theorem alX8_age : ∀ (n : Nat), (∀ {I : Nat → Nat → Int32} {J : Nat → Nat → Int64} {x1 : Int32} {x4 : Int32} {x5 : Int32} {x6 : Int32} {x7 : Int32} {I' : Nat → Nat → Int32} {J' : Nat → Nat → Int64} {r : Int32}, LX8_age n 0 I J x1 x4 x5 x6 x7 = some (r, I', J') → am_E 3 nX8_age (35, [.ref 0, .int x1, .retAddr 0, .retAddr 0, .int x4, .retAddr 0, .retAddr 0, .retAddr 0], [], (TM, I, J, RM)) (fun v M' => v = some (.int r) ∧ M' = (TM, I', J', RM))) ∧
    (∀ {I : Nat → Nat → Int32} {J : Nat → Nat → Int64} {x1 : Int32} {x4 : Int32} {x5 : Int32} {x6 : Int32} {x7 : Int32} {I' : Nat → Nat → Int32} {J' : Nat → Nat → Int64} {r : Int32}, LX8_age n 1 I J x1 x4 x5 x6 x7 = some (r, I', J') → am_E 3 nX8_age (52, [.ref 0, .int x1, .retAddr 0, .retAddr 0, .int x4, .int x5, .int x6, .int x7], [], (TM, I, J, RM)) (fun v M' => v = some (.int r) ∧ M' = (TM, I', J', RM))) := by
  intro n
  induction n with
  | zero => exact ⟨by intros; contradiction, by intros; contradiction⟩
  | succ n ih =>
    refine ⟨?_, ?_⟩
    · intro I J x1 x4 x5 x6 x7 I' J' r h
      simp only [LX8_age] at h
      refine am_E.go (n := 1) rfl ?_
      refine am_E.brk rfl (fun hp => ?_) (fun hp => ?_)
      · have h := (if_pos hp).symm.trans h
        refine am_E.go (n := 0) rfl ?_
        cases h
        exact am_E.ret rfl ⟨rfl, rfl⟩
      · have h := (if_neg hp).symm.trans h
        refine am_E.go (n := 5) rfl ?_
        exact ih.2 h
    · intro I J x1 x4 x5 x6 x7 I' J' r h
      simp only [LX8_age] at h
      refine am_E.go (n := 1) rfl ?_
      refine am_E.brk rfl (fun hp => ?_) (fun hp => ?_)
      · have h := (if_pos hp).symm.trans h
        refine am_E.go (n := 0) rfl ?_
        refine am_E.brk rfl (fun hp => ?_) (fun hp => ?_)
        · have h := (if_pos hp).symm.trans h
          refine am_E.go (n := 1) rfl ?_
          refine am_E.less (ls0 := [_, _, .retAddr 0, .retAddr 0, _, .retAddr 0, .retAddr 0, .retAddr 0]) ?_ ⟨Or.inl rfl, Or.inl rfl, Or.inl rfl, Or.inl rfl, Or.inl rfl, Or.inr ⟨rfl, rfl⟩, Or.inr ⟨rfl, rfl⟩, Or.inr ⟨rfl, rfl⟩, trivial⟩
          exact ih.1 h
        · have h := (if_neg hp).symm.trans h
          refine am_E.go (n := 0) rfl ?_
          cases h
          exact am_E.ret rfl ⟨rfl, rfl⟩
      · have h := (if_neg hp).symm.trans h
        refine am_E.go (n := 0) rfl ?_
        refine am_E.brk rfl (fun hp => ?_) (fun hp => ?_)
        · have h := (if_pos hp).symm.trans h
          refine am_E.go (n := 0) rfl ?_
          refine am_E.brk rfl (fun hp => ?_) (fun hp => ?_)
          · have h := (if_pos hp).symm.trans h
            refine am_E.go (n := 1) rfl ?_
            refine am_E.less (ls0 := [_, _, .retAddr 0, .retAddr 0, _, .retAddr 0, .retAddr 0, .retAddr 0]) ?_ ⟨Or.inl rfl, Or.inl rfl, Or.inl rfl, Or.inl rfl, Or.inl rfl, Or.inr ⟨rfl, rfl⟩, Or.inr ⟨rfl, rfl⟩, Or.inr ⟨rfl, rfl⟩, trivial⟩
            exact ih.1 h
          · have h := (if_neg hp).symm.trans h
            refine am_E.go (n := 0) rfl ?_
            cases h
            exact am_E.ret rfl ⟨rfl, rfl⟩
        · have h := (if_neg hp).symm.trans h
          refine am_E.go (n := 2) rfl ?_
          obtain ⟨hg, h⟩ := am_ifI h
          refine am_E.grd rfl hg ?_
          refine am_E.go (n := 0) rfl ?_
          refine am_E.brk rfl (fun hp => ?_) (fun hp => ?_)
          · have h := (if_pos hp).symm.trans h
            refine am_E.go (n := 2) rfl ?_
            obtain ⟨q8, hq, h⟩ := am_bindI h
            refine am_E.callF rfl (by decide) (axX8_freshAt hq) ?_
            refine am_E.go (n := 2) rfl ?_
            obtain ⟨q9, hq, h⟩ := am_bindI h
            refine am_E.callF rfl (by decide) (axX8_intAt hq) ?_
            refine am_E.brk rfl (fun hp => ?_) (fun hp => ?_)
            · have h := (if_pos hp).symm.trans h
              refine am_E.go (n := 4) rfl ?_
              exact ih.2 h
            · have h := (if_neg hp).symm.trans h
              refine am_E.go (n := 5) rfl ?_
              exact ih.2 h
          · have h := (if_neg hp).symm.trans h
            refine am_E.go (n := 2) rfl ?_
            exact ih.2 h
set_option maxHeartbeats 4000000 in
set_option maxRecDepth 100000 in
theorem axX8_age {I : Nat → Nat → Int32} {J : Nat → Nat → Int64} {a0 : Int32} {a1 : Int32} {r : Int32} {I' : Nat → Nat → Int32} {J' : Nat → Nat → Int64} (h : DX8_age I J a0 a1 = some (r, I', J')) : am_F 3 nX8_age [.ref 0, .int a0, .int a1, .retAddr 0, .retAddr 0, .retAddr 0, .retAddr 0, .retAddr 0] (TM, I, J, RM) (some (.int r)) (TM, I', J', RM) := by
  unfold DX8_age at h
  unfold am_F
  refine am_E.go (n := 2) rfl ?_
  obtain ⟨q1, hq, h⟩ := am_bindI h
  refine am_E.callF rfl (by decide) (axX8_bars hq) ?_
  refine am_E.go (n := 1) rfl ?_
  refine am_E.brk rfl (fun hp => ?_) (fun hp => ?_)
  · have h := (if_pos hp).symm.trans h
    refine am_E.go (n := 0) rfl ?_
    refine am_E.brk rfl (fun hp => ?_) (fun hp => ?_)
    · have h := (if_pos hp).symm.trans h
      refine am_E.go (n := 1) rfl ?_
      refine am_E.less (ls0 := [_, _, .retAddr 0, .retAddr 0, _, .retAddr 0, .retAddr 0, .retAddr 0]) ?_ ⟨Or.inl rfl, Or.inl rfl, Or.inr ⟨rfl, rfl⟩, Or.inr ⟨rfl, rfl⟩, Or.inl rfl, Or.inl rfl, Or.inl rfl, Or.inl rfl, trivial⟩
      exact (alX8_age am_FU).1 h
    · have h := (if_neg hp).symm.trans h
      refine am_E.go (n := 1) rfl ?_
      obtain ⟨q2, hq, h⟩ := am_bindI h
      obtain ⟨q2_1, q2_2, q2_3⟩ := q2
      refine am_E.callF rfl (by decide) (axX8_noTen hq) ?_
      cases h
      exact am_E.ret rfl ⟨rfl, rfl⟩
  · have h := (if_neg hp).symm.trans h
    refine am_E.go (n := 1) rfl ?_
    obtain ⟨q3, hq, h⟩ := am_bindI h
    refine am_E.callF rfl (by decide) (axX8_laidMany hq) ?_
    refine am_E.brk rfl (fun hp => ?_) (fun hp => ?_)
    · have h := (if_pos hp).symm.trans h
      refine am_E.go (n := 0) rfl ?_
      refine am_E.brk rfl (fun hp => ?_) (fun hp => ?_)
      · have h := (if_pos hp).symm.trans h
        refine am_E.go (n := 1) rfl ?_
        refine am_E.less (ls0 := [_, _, .retAddr 0, .retAddr 0, _, .retAddr 0, .retAddr 0, .retAddr 0]) ?_ ⟨Or.inl rfl, Or.inl rfl, Or.inr ⟨rfl, rfl⟩, Or.inr ⟨rfl, rfl⟩, Or.inl rfl, Or.inl rfl, Or.inl rfl, Or.inl rfl, trivial⟩
        exact (alX8_age am_FU).1 h
      · have h := (if_neg hp).symm.trans h
        refine am_E.go (n := 1) rfl ?_
        obtain ⟨q4, hq, h⟩ := am_bindI h
        obtain ⟨q4_1, q4_2, q4_3⟩ := q4
        refine am_E.callF rfl (by decide) (axX8_noTen hq) ?_
        cases h
        exact am_E.ret rfl ⟨rfl, rfl⟩
    · have h := (if_neg hp).symm.trans h
      refine am_E.go (n := 2) rfl ?_
      refine am_E.step rfl ?_
      refine am_E.go (n := 1) rfl ?_
      obtain ⟨q5, hq, h⟩ := am_bindI h
      obtain ⟨q5_1, q5_2, q5_3⟩ := q5
      refine am_E.callF rfl (by decide) (axX8_noTen hq) ?_
      cases h
      exact am_E.ret rfl ⟨rfl, rfl⟩
def LX8_lacking : Nat → Nat → (Nat → Nat → Int32) → Int32 → Int32 → Option Int32
  | 0, _, _, _, _ => none
  | n + 1, 0, I, x1, x2 =>
    if (24 : Int32) ≤ x2 then
      LX8_lacking n 1 I x1 ((0 : Int32))
    else
      if ¬ (x2 < 0 ∨ 24 ≤ (x2).toNatClampNeg) then
        if (I 5 (x2).toNatClampNeg) = (-1 : Int32) then
          LX8_lacking n 0 I x1 ((x2 + (1 : Int32)))
        else
          if ¬ (x2 < 0 ∨ 24 ≤ (x2).toNatClampNeg) then
            LX8_lacking n 0 I ((x1 ||| ((1 : Int32) <<< ((I 5 (x2).toNatClampNeg) &&& 31)))) ((x2 + (1 : Int32)))
          else none
      else none
  | n + 1, _, I, x1, x2 =>
    if (I 0 0) ≤ x2 then
      some x1
    else
      if ¬ (x2 < 0 ∨ 8 ≤ (x2).toNatClampNeg) then
        LX8_lacking n 1 I ((x1 &&& (((1 : Int32) <<< ((I 3 (x2).toNatClampNeg) &&& 31)) ^^^ (-1 : Int32)))) ((x2 + (1 : Int32)))
      else none
def DX8_lacking (I : Nat → Nat → Int32) : Option Int32 :=
  LX8_lacking am_FU 0 I ((0 : Int32)) ((0 : Int32))
set_option maxHeartbeats 4000000 in
set_option maxRecDepth 100000 in
theorem alX8_lacking : ∀ (n : Nat), (∀ {I : Nat → Nat → Int32} {J : Nat → Nat → Int64} {x1 : Int32} {x2 : Int32} {r : Int32}, LX8_lacking n 0 I x1 x2 = some r → am_E 0 nX8_lacking (4, [.ref 0, .int x1, .int x2], [], (TM, I, J, RM)) (fun v M' => v = some (.int r) ∧ M' = (TM, I, J, RM))) ∧
    (∀ {I : Nat → Nat → Int32} {J : Nat → Nat → Int64} {x1 : Int32} {x2 : Int32} {r : Int32}, LX8_lacking n 1 I x1 x2 = some r → am_E 0 nX8_lacking (39, [.ref 0, .int x1, .int x2], [], (TM, I, J, RM)) (fun v M' => v = some (.int r) ∧ M' = (TM, I, J, RM))) := by
  intro n
  induction n with
  | zero => exact ⟨by intros; contradiction, by intros; contradiction⟩
  | succ n ih =>
    refine ⟨?_, ?_⟩
    · intro I J x1 x2 r h
      simp only [LX8_lacking] at h
      refine am_E.go (n := 1) rfl ?_
      refine am_E.brk rfl (fun hp => ?_) (fun hp => ?_)
      · have h := (if_pos hp).symm.trans h
        refine am_E.go (n := 1) rfl ?_
        exact ih.2 h
      · have h := (if_neg hp).symm.trans h
        refine am_E.go (n := 2) rfl ?_
        obtain ⟨hg, h⟩ := am_ifI h
        refine am_E.grd rfl hg ?_
        refine am_E.go (n := 0) rfl ?_
        refine am_E.brk rfl (fun hp => ?_) (fun hp => ?_)
        · have h := (if_pos hp).symm.trans h
          refine am_E.go (n := 1) rfl ?_
          exact ih.1 h
        · have h := (if_neg hp).symm.trans h
          refine am_E.go (n := 4) rfl ?_
          obtain ⟨hg, h⟩ := am_ifI h
          refine am_E.grd rfl hg ?_
          refine am_E.go (n := 4) rfl ?_
          exact ih.1 h
    · intro I J x1 x2 r h
      simp only [LX8_lacking] at h
      refine am_E.go (n := 2) rfl ?_
      refine am_E.brk rfl (fun hp => ?_) (fun hp => ?_)
      · have h := (if_pos hp).symm.trans h
        refine am_E.go (n := 0) rfl ?_
        cases h
        exact am_E.ret rfl ⟨rfl, rfl⟩
      · have h := (if_neg hp).symm.trans h
        refine am_E.go (n := 4) rfl ?_
        obtain ⟨hg, h⟩ := am_ifI h
        refine am_E.grd rfl hg ?_
        refine am_E.go (n := 6) rfl ?_
        exact ih.2 h
set_option maxHeartbeats 4000000 in
set_option maxRecDepth 100000 in
theorem axX8_lacking {I : Nat → Nat → Int32} {J : Nat → Nat → Int64} {r : Int32} (h : DX8_lacking I = some r) : am_F 0 nX8_lacking [.ref 0, .retAddr 0, .retAddr 0] (TM, I, J, RM) (some (.int r)) (TM, I, J, RM) := by
  unfold DX8_lacking at h
  unfold am_F
  refine am_E.go (n := 3) rfl ?_
  exact (alX8_lacking am_FU).1 h
def LX8_wrong : Nat → (Nat → Nat → Int32) → Int32 → Int32 → Option Int32
  | 0, _, _, _ => none
  | n + 1, I, x1, x2 =>
    if (24 : Int32) ≤ x2 then
      some x1
    else
      if ¬ (x2 < 0 ∨ 24 ≤ (x2).toNatClampNeg) then
        if (I 6 (x2).toNatClampNeg) = (-1 : Int32) then
          LX8_wrong n I x1 ((x2 + (1 : Int32)))
        else
          if ¬ (x2 < 0 ∨ 24 ≤ (x2).toNatClampNeg) then
            if ¬ ((I 6 (x2).toNatClampNeg) < 0 ∨ 8 ≤ ((I 6 (x2).toNatClampNeg)).toNatClampNeg) then
              if ¬ (x2 < 0 ∨ 24 ≤ (x2).toNatClampNeg) then
                if (I 3 ((I 6 (x2).toNatClampNeg)).toNatClampNeg) = (I 5 (x2).toNatClampNeg) then
                  LX8_wrong n I x1 ((x2 + (1 : Int32)))
                else
                  LX8_wrong n I ((x1 ||| ((1 : Int32) <<< (x2 &&& 31)))) ((x2 + (1 : Int32)))
              else none
            else none
          else none
      else none
def DX8_wrong (I : Nat → Nat → Int32) : Option Int32 :=
  LX8_wrong am_FU I ((0 : Int32)) ((0 : Int32))
set_option maxHeartbeats 4000000 in
set_option maxRecDepth 100000 in
theorem alX8_wrong : ∀ (n : Nat), ∀ {I : Nat → Nat → Int32} {J : Nat → Nat → Int64} {x1 : Int32} {x2 : Int32} {r : Int32}, LX8_wrong n I x1 x2 = some r → am_E 0 nX8_wrong (4, [.ref 0, .int x1, .int x2], [], (TM, I, J, RM)) (fun v M' => v = some (.int r) ∧ M' = (TM, I, J, RM)) := by
  intro n
  induction n with
  | zero => intros; contradiction
  | succ n ih =>
    intro I J x1 x2 r h
    simp only [LX8_wrong] at h
    refine am_E.go (n := 1) rfl ?_
    refine am_E.brk rfl (fun hp => ?_) (fun hp => ?_)
    · have h := (if_pos hp).symm.trans h
      refine am_E.go (n := 0) rfl ?_
      cases h
      exact am_E.ret rfl ⟨rfl, rfl⟩
    · have h := (if_neg hp).symm.trans h
      refine am_E.go (n := 2) rfl ?_
      obtain ⟨hg, h⟩ := am_ifI h
      refine am_E.grd rfl hg ?_
      refine am_E.go (n := 0) rfl ?_
      refine am_E.brk rfl (fun hp => ?_) (fun hp => ?_)
      · have h := (if_pos hp).symm.trans h
        refine am_E.go (n := 1) rfl ?_
        exact ih h
      · have h := (if_neg hp).symm.trans h
        refine am_E.go (n := 4) rfl ?_
        obtain ⟨hg, h⟩ := am_ifI h
        refine am_E.grd rfl hg ?_
        obtain ⟨hg, h⟩ := am_ifI h
        refine am_E.grd rfl hg ?_
        refine am_E.go (n := 2) rfl ?_
        obtain ⟨hg, h⟩ := am_ifI h
        refine am_E.grd rfl hg ?_
        refine am_E.brk rfl (fun hp => ?_) (fun hp => ?_)
        · have h := (if_pos hp).symm.trans h
          refine am_E.go (n := 1) rfl ?_
          exact ih h
        · have h := (if_neg hp).symm.trans h
          refine am_E.go (n := 7) rfl ?_
          exact ih h
set_option maxHeartbeats 4000000 in
set_option maxRecDepth 100000 in
theorem axX8_wrong {I : Nat → Nat → Int32} {J : Nat → Nat → Int64} {r : Int32} (h : DX8_wrong I = some r) : am_F 0 nX8_wrong [.ref 0, .retAddr 0, .retAddr 0] (TM, I, J, RM) (some (.int r)) (TM, I, J, RM) := by
  unfold DX8_wrong at h
  unfold am_F
  refine am_E.go (n := 3) rfl ?_
  exact (alX8_wrong am_FU) h
def LX8_judge : Nat → Nat → (Nat → Nat → Int32) → (Nat → Nat → Int64) → Int32 → Int32 → Int32 → Int32 → Option (Int32 × (Nat → Nat → Int32) × (Nat → Nat → Int64))
  | 0, _, _, _, _, _, _, _ => none
  | n + 1, 0, I, J, x1, x2, x4, x5 =>
    if (24 : Int32) ≤ x4 then
      LX8_judge n 1 I J x1 x2 ((-1 : Int32)) ((0 : Int32))
    else
      if ¬ (x4 < 0 ∨ 24 ≤ (x4).toNatClampNeg) then
        if ¬ (x4 < 0 ∨ 24 ≤ (x4).toNatClampNeg) then
          LX8_judge n 0 ((am_upI I 24 (x4).toNatClampNeg (I 6 (x4).toNatClampNeg))) J x1 x2 ((x4 + (1 : Int32))) 0
        else none
      else none
  | n + 1, 1, I, J, x1, x2, x4, x5 =>
    if x2 ≤ x5 then
      LX8_judge n 2 I J 0 0 x4 ((0 : Int32))
    else
      if ¬ x4 = (-1 : Int32) then
        LX8_judge n 2 I J 0 0 x4 ((0 : Int32))
      else
        (DX8_intAt J x1 x5).bind fun q7 =>
        if q7 < 0 then
          LX8_judge n 1 I J x1 x2 x5 ((x5 + (1 : Int32)))
        else
          if ¬ (10 : Int32) = 0 then
            if (DX8_isCell ((q7 / (10 : Int32)))) = 0 then
              LX8_judge n 1 I J x1 x2 x5 ((x5 + (1 : Int32)))
            else
              if ¬ (10 : Int32) = 0 then
                if (DX8_isStuff I ((q7 - q7 / (10 : Int32) * (10 : Int32)))) = 0 then
                  LX8_judge n 1 I J x1 x2 x5 ((x5 + (1 : Int32)))
                else
                  if ¬ (10 : Int32) = 0 then
                    (DX8_mayLay I ((q7 / (10 : Int32)))).bind fun q8 =>
                    if ¬ q8 = 0 then
                      if ¬ (10 : Int32) = 0 then
                        if ¬ (10 : Int32) = 0 then
                          if ¬ ((q7 / (10 : Int32)) < 0 ∨ 24 ≤ ((q7 / (10 : Int32))).toNatClampNeg) then
                            LX8_judge n 1 ((am_upI I 6 ((q7 / (10 : Int32))).toNatClampNeg (q7 - q7 / (10 : Int32) * (10 : Int32)))) J x1 x2 x4 ((x5 + (1 : Int32)))
                          else none
                        else none
                      else none
                    else
                      LX8_judge n 1 I J x1 x2 x5 ((x5 + (1 : Int32)))
                  else none
              else none
          else none
  | n + 1, _, I, J, x1, x2, x4, x5 =>
    if (24 : Int32) ≤ x5 then
      some (x4, I, J)
    else
      if ¬ (x5 < 0 ∨ 24 ≤ (x5).toNatClampNeg) then
        if ¬ (x5 < 0 ∨ 24 ≤ (x5).toNatClampNeg) then
          LX8_judge n 2 ((am_upI I 6 (x5).toNatClampNeg (I 24 (x5).toNatClampNeg))) J 0 0 x4 ((x5 + (1 : Int32)))
        else none
      else none
def DX8_judge (I : Nat → Nat → Int32) (J : Nat → Nat → Int64) (a0 : Int32) (a1 : Int32) : Option (Int32 × (Nat → Nat → Int32) × (Nat → Nat → Int64)) :=
  (DX8_bars I a0 a1).bind fun q1 =>
  if ¬ q1 = 0 then
    if q1 = 0 then
      LX8_judge am_FU 0 I J a0 a1 ((0 : Int32)) 0
    else
      (DX8_noTen I J q1).bind fun q2 =>
      some (q2.1, q2.2.1, q2.2.2)
  else
    if a1 ≤ (40 : Int32) then
      if q1 = 0 then
        LX8_judge am_FU 0 I J a0 a1 ((0 : Int32)) 0
      else
        (DX8_noTen I J q1).bind fun q3 =>
        some (q3.1, q3.2.1, q3.2.2)
    else
      (DX8_noTen I J ((-6 : Int32))).bind fun q4 =>
      some (q4.1, q4.2.1, q4.2.2)
set_option maxHeartbeats 4000000 in
set_option maxRecDepth 100000 in
theorem alX8_judge : ∀ (n : Nat), (∀ {I : Nat → Nat → Int32} {J : Nat → Nat → Int64} {x1 : Int32} {x2 : Int32} {x4 : Int32} {x5 : Int32} {I' : Nat → Nat → Int32} {J' : Nat → Nat → Int64} {r : Int32}, LX8_judge n 0 I J x1 x2 x4 x5 = some (r, I', J') → am_E 3 nX8_judge (33, [.ref 0, .int x1, .int x2, .retAddr 0, .int x4, .retAddr 0, .retAddr 0], [], (TM, I, J, RM)) (fun v M' => v = some (.int r) ∧ M' = (TM, I', J', RM))) ∧
    (∀ {I : Nat → Nat → Int32} {J : Nat → Nat → Int64} {x1 : Int32} {x2 : Int32} {x4 : Int32} {x5 : Int32} {I' : Nat → Nat → Int32} {J' : Nat → Nat → Int64} {r : Int32}, LX8_judge n 1 I J x1 x2 x4 x5 = some (r, I', J') → am_E 3 nX8_judge (66, [.ref 0, .int x1, .int x2, .retAddr 0, .int x4, .int x5, .retAddr 0], [], (TM, I, J, RM)) (fun v M' => v = some (.int r) ∧ M' = (TM, I', J', RM))) ∧
    (∀ {I : Nat → Nat → Int32} {J : Nat → Nat → Int64} {x1 : Int32} {x2 : Int32} {x4 : Int32} {x5 : Int32} {I' : Nat → Nat → Int32} {J' : Nat → Nat → Int64} {r : Int32}, LX8_judge n 2 I J x1 x2 x4 x5 = some (r, I', J') → am_E 3 nX8_judge (159, [.ref 0, .retAddr 0, .retAddr 0, .retAddr 0, .int x4, .int x5, .retAddr 0], [], (TM, I, J, RM)) (fun v M' => v = some (.int r) ∧ M' = (TM, I', J', RM))) := by
  intro n
  induction n with
  | zero => exact ⟨by intros; contradiction, by intros; contradiction, by intros; contradiction⟩
  | succ n ih =>
    refine ⟨?_, ?_, ?_⟩
    · intro I J x1 x2 x4 x5 I' J' r h
      simp only [LX8_judge] at h
      refine am_E.go (n := 1) rfl ?_
      refine am_E.brk rfl (fun hp => ?_) (fun hp => ?_)
      · have h := (if_pos hp).symm.trans h
        refine am_E.go (n := 3) rfl ?_
        exact ih.2.1 h
      · have h := (if_neg hp).symm.trans h
        refine am_E.go (n := 5) rfl ?_
        obtain ⟨hg, h⟩ := am_ifI h
        refine am_E.grd rfl hg ?_
        obtain ⟨hg, h⟩ := am_ifI h
        refine am_E.grd rfl hg ?_
        refine am_E.go (n := 1) rfl ?_
        exact ih.1 h
    · intro I J x1 x2 x4 x5 I' J' r h
      simp only [LX8_judge] at h
      refine am_E.go (n := 1) rfl ?_
      refine am_E.brk rfl (fun hp => ?_) (fun hp => ?_)
      · have h := (if_pos hp).symm.trans h
        refine am_E.go (n := 1) rfl ?_
        refine am_E.less (ls0 := [_, .retAddr 0, .retAddr 0, .retAddr 0, _, _, .retAddr 0]) ?_ ⟨Or.inl rfl, Or.inr ⟨rfl, rfl⟩, Or.inr ⟨rfl, rfl⟩, Or.inl rfl, Or.inl rfl, Or.inl rfl, Or.inl rfl, trivial⟩
        exact ih.2.2 h
      · have h := (if_neg hp).symm.trans h
        refine am_E.go (n := 1) rfl ?_
        refine am_E.brk rfl (fun hp => ?_) (fun hp => ?_)
        · have h := (if_pos hp).symm.trans h
          refine am_E.go (n := 1) rfl ?_
          refine am_E.less (ls0 := [_, .retAddr 0, .retAddr 0, .retAddr 0, _, _, .retAddr 0]) ?_ ⟨Or.inl rfl, Or.inr ⟨rfl, rfl⟩, Or.inr ⟨rfl, rfl⟩, Or.inl rfl, Or.inl rfl, Or.inl rfl, Or.inl rfl, trivial⟩
          exact ih.2.2 h
        · have h := (if_neg hp).symm.trans h
          refine am_E.go (n := 2) rfl ?_
          obtain ⟨q7, hq, h⟩ := am_bindI h
          refine am_E.callF rfl (by decide) (axX8_intAt hq) ?_
          refine am_E.go (n := 1) rfl ?_
          refine am_E.brk rfl (fun hp => ?_) (fun hp => ?_)
          · have h := (if_pos hp).symm.trans h
            refine am_E.go (n := 4) rfl ?_
            refine am_E.less (ls0 := [_, _, _, .retAddr 0, _, _, .retAddr 0]) ?_ ⟨Or.inl rfl, Or.inl rfl, Or.inl rfl, Or.inl rfl, Or.inl rfl, Or.inl rfl, Or.inr ⟨rfl, rfl⟩, trivial⟩
            exact ih.2.1 h
          · have h := (if_neg hp).symm.trans h
            refine am_E.go (n := 2) rfl ?_
            obtain ⟨hg, h⟩ := am_ifI h
            refine am_E.grd rfl hg ?_
            refine am_E.callF rfl (by decide) (axX8_isCell rfl) ?_
            refine am_E.brk rfl (fun hp => ?_) (fun hp => ?_)
            · have h := (if_pos hp).symm.trans h
              refine am_E.go (n := 4) rfl ?_
              refine am_E.less (ls0 := [_, _, _, .retAddr 0, _, _, .retAddr 0]) ?_ ⟨Or.inl rfl, Or.inl rfl, Or.inl rfl, Or.inl rfl, Or.inl rfl, Or.inl rfl, Or.inr ⟨rfl, rfl⟩, trivial⟩
              exact ih.2.1 h
            · have h := (if_neg hp).symm.trans h
              refine am_E.go (n := 2) rfl ?_
              obtain ⟨hg, h⟩ := am_ifI h
              refine am_E.grd rfl hg ?_
              refine am_E.callF rfl (by decide) (axX8_isStuff rfl) ?_
              refine am_E.brk rfl (fun hp => ?_) (fun hp => ?_)
              · have h := (if_pos hp).symm.trans h
                refine am_E.go (n := 4) rfl ?_
                refine am_E.less (ls0 := [_, _, _, .retAddr 0, _, _, .retAddr 0]) ?_ ⟨Or.inl rfl, Or.inl rfl, Or.inl rfl, Or.inl rfl, Or.inl rfl, Or.inl rfl, Or.inr ⟨rfl, rfl⟩, trivial⟩
                exact ih.2.1 h
              · have h := (if_neg hp).symm.trans h
                refine am_E.go (n := 2) rfl ?_
                obtain ⟨hg, h⟩ := am_ifI h
                refine am_E.grd rfl hg ?_
                obtain ⟨q8, hq, h⟩ := am_bindI h
                refine am_E.callF rfl (by decide) (axX8_mayLay hq) ?_
                refine am_E.brk rfl (fun hp => ?_) (fun hp => ?_)
                · have h := (if_pos hp).symm.trans h
                  refine am_E.go (n := 3) rfl ?_
                  obtain ⟨hg, h⟩ := am_ifI h
                  refine am_E.grd rfl hg ?_
                  refine am_E.go (n := 1) rfl ?_
                  obtain ⟨hg, h⟩ := am_ifI h
                  refine am_E.grd rfl hg ?_
                  obtain ⟨hg, h⟩ := am_ifI h
                  refine am_E.grd rfl hg ?_
                  refine am_E.go (n := 1) rfl ?_
                  refine am_E.less (ls0 := [_, _, _, .retAddr 0, _, _, .retAddr 0]) ?_ ⟨Or.inl rfl, Or.inl rfl, Or.inl rfl, Or.inl rfl, Or.inl rfl, Or.inl rfl, Or.inr ⟨rfl, rfl⟩, trivial⟩
                  exact ih.2.1 h
                · have h := (if_neg hp).symm.trans h
                  refine am_E.go (n := 4) rfl ?_
                  refine am_E.less (ls0 := [_, _, _, .retAddr 0, _, _, .retAddr 0]) ?_ ⟨Or.inl rfl, Or.inl rfl, Or.inl rfl, Or.inl rfl, Or.inl rfl, Or.inl rfl, Or.inr ⟨rfl, rfl⟩, trivial⟩
                  exact ih.2.1 h
    · intro I J x1 x2 x4 x5 I' J' r h
      simp only [LX8_judge] at h
      refine am_E.go (n := 1) rfl ?_
      refine am_E.brk rfl (fun hp => ?_) (fun hp => ?_)
      · have h := (if_pos hp).symm.trans h
        refine am_E.go (n := 0) rfl ?_
        cases h
        exact am_E.ret rfl ⟨rfl, rfl⟩
      · have h := (if_neg hp).symm.trans h
        refine am_E.go (n := 5) rfl ?_
        obtain ⟨hg, h⟩ := am_ifI h
        refine am_E.grd rfl hg ?_
        obtain ⟨hg, h⟩ := am_ifI h
        refine am_E.grd rfl hg ?_
        refine am_E.go (n := 1) rfl ?_
        exact ih.2.2 h
set_option maxHeartbeats 4000000 in
set_option maxRecDepth 100000 in
theorem axX8_judge {I : Nat → Nat → Int32} {J : Nat → Nat → Int64} {a0 : Int32} {a1 : Int32} {r : Int32} {I' : Nat → Nat → Int32} {J' : Nat → Nat → Int64} (h : DX8_judge I J a0 a1 = some (r, I', J')) : am_F 3 nX8_judge [.ref 0, .int a0, .int a1, .retAddr 0, .retAddr 0, .retAddr 0, .retAddr 0] (TM, I, J, RM) (some (.int r)) (TM, I', J', RM) := by
  unfold DX8_judge at h
  unfold am_F
  refine am_E.go (n := 2) rfl ?_
  obtain ⟨q1, hq, h⟩ := am_bindI h
  refine am_E.callF rfl (by decide) (axX8_bars hq) ?_
  refine am_E.go (n := 1) rfl ?_
  refine am_E.brk rfl (fun hp => ?_) (fun hp => ?_)
  · have h := (if_pos hp).symm.trans h
    refine am_E.go (n := 0) rfl ?_
    refine am_E.brk rfl (fun hp => ?_) (fun hp => ?_)
    · have h := (if_pos hp).symm.trans h
      refine am_E.go (n := 1) rfl ?_
      refine am_E.less (ls0 := [_, _, _, .retAddr 0, _, .retAddr 0, .retAddr 0]) ?_ ⟨Or.inl rfl, Or.inl rfl, Or.inl rfl, Or.inr ⟨rfl, rfl⟩, Or.inl rfl, Or.inl rfl, Or.inl rfl, trivial⟩
      exact (alX8_judge am_FU).1 h
    · have h := (if_neg hp).symm.trans h
      refine am_E.go (n := 1) rfl ?_
      obtain ⟨q2, hq, h⟩ := am_bindI h
      obtain ⟨q2_1, q2_2, q2_3⟩ := q2
      refine am_E.callF rfl (by decide) (axX8_noTen hq) ?_
      cases h
      exact am_E.ret rfl ⟨rfl, rfl⟩
  · have h := (if_neg hp).symm.trans h
    refine am_E.go (n := 1) rfl ?_
    refine am_E.brk rfl (fun hp => ?_) (fun hp => ?_)
    · have h := (if_pos hp).symm.trans h
      refine am_E.go (n := 0) rfl ?_
      refine am_E.brk rfl (fun hp => ?_) (fun hp => ?_)
      · have h := (if_pos hp).symm.trans h
        refine am_E.go (n := 1) rfl ?_
        refine am_E.less (ls0 := [_, _, _, .retAddr 0, _, .retAddr 0, .retAddr 0]) ?_ ⟨Or.inl rfl, Or.inl rfl, Or.inl rfl, Or.inr ⟨rfl, rfl⟩, Or.inl rfl, Or.inl rfl, Or.inl rfl, trivial⟩
        exact (alX8_judge am_FU).1 h
      · have h := (if_neg hp).symm.trans h
        refine am_E.go (n := 1) rfl ?_
        obtain ⟨q3, hq, h⟩ := am_bindI h
        obtain ⟨q3_1, q3_2, q3_3⟩ := q3
        refine am_E.callF rfl (by decide) (axX8_noTen hq) ?_
        cases h
        exact am_E.ret rfl ⟨rfl, rfl⟩
    · have h := (if_neg hp).symm.trans h
      refine am_E.go (n := 2) rfl ?_
      refine am_E.step rfl ?_
      refine am_E.go (n := 1) rfl ?_
      obtain ⟨q4, hq, h⟩ := am_bindI h
      obtain ⟨q4_1, q4_2, q4_3⟩ := q4
      refine am_E.callF rfl (by decide) (axX8_noTen hq) ?_
      cases h
      exact am_E.ret rfl ⟨rfl, rfl⟩
def DX8_draw (I : Nat → Nat → Int32) (J : Nat → Nat → Int64) (a0 : Int32) : Option (Int32 × (Nat → Nat → Int32) × (Nat → Nat → Int64)) :=
  if ¬ a0 = 0 then
    some (((((((am_upI I 0 5 (((I 0 5) * (1103515245 : Int32)) + (12345 : Int32)))) 0 5)).toUInt32 >>> (((16 : Int32)).toUInt32 &&& Int32.toUInt32 31)).toInt32 - (((((am_upI I 0 5 (((I 0 5) * (1103515245 : Int32)) + (12345 : Int32)))) 0 5)).toUInt32 >>> (((16 : Int32)).toUInt32 &&& Int32.toUInt32 31)).toInt32 / a0 * a0), (am_upI I 0 5 (((I 0 5) * (1103515245 : Int32)) + (12345 : Int32))), J)
  else none
set_option maxHeartbeats 4000000 in
set_option maxRecDepth 100000 in
theorem axX8_draw {I : Nat → Nat → Int32} {J : Nat → Nat → Int64} {a0 : Int32} {r : Int32} {I' : Nat → Nat → Int32} {J' : Nat → Nat → Int64} (h : DX8_draw I J a0 = some (r, I', J')) : am_F 0 nX8_draw [.ref 0, .int a0] (TM, I, J, RM) (some (.int r)) (TM, I', J', RM) := by
  unfold DX8_draw at h
  unfold am_F
  refine am_E.go (n := 12) rfl ?_
  obtain ⟨hg, h⟩ := am_ifI h
  refine am_E.grd rfl hg ?_
  cases h
  exact am_E.ret rfl ⟨rfl, rfl⟩
def LX8_days : Nat → (Nat → Nat → Int32) → (Nat → Nat → Int64) → Int32 → Int32 → Int32 → Option (Int32 × (Nat → Nat → Int32) × (Nat → Nat → Int64))
  | 0, _, _, _, _, _ => none
  | n + 1, I, J, x1, x2, x3 =>
    if x1 ≤ x3 then
      some (((I 0 4) - x2), I, J)
    else
      (DX8_draw I J ((3 : Int32))).bind fun q10 =>
      (DX8_goes (am_upI q10.2.1 0 1 q10.1) q10.2.2 ((24 : Int32))).bind fun q11 =>
      if (30 : Int32) ≤ (q11.2.1 0 2) then
        (DX8_draw q11.2.1 q11.2.2 ((24 : Int32))).bind fun q12 =>
        (DX8_puts q12.2.1 q12.2.2 q12.1 ((-1 : Int32))).bind fun q13 =>
        LX8_days n q13.2.1 q13.2.2 x1 x2 ((x3 + (1 : Int32)))
      else
        (DX8_spray q11.2.1 q11.2.2).bind fun q14 =>
        (DX8_draw q14.2.1 q14.2.2 ((24 : Int32))).bind fun q15 =>
        (DX8_puts q15.2.1 q15.2.2 q15.1 ((-1 : Int32))).bind fun q16 =>
        LX8_days n q16.2.1 q16.2.2 x1 x2 ((x3 + (1 : Int32)))
def DX8_days (I : Nat → Nat → Int32) (J : Nat → Nat → Int64) (a0 : Int32) : Option (Int32 × (Nat → Nat → Int32) × (Nat → Nat → Int64)) :=
  if a0 < (1 : Int32) then
    (DX8_no I J ((-6 : Int32))).bind fun q1 =>
    some (q1.1, q1.2.1, q1.2.2)
  else
    if a0 ≤ (20 : Int32) then
      LX8_days am_FU I J a0 ((I 0 4)) ((0 : Int32))
    else
      (DX8_no I J ((-6 : Int32))).bind fun q2 =>
      some (q2.1, q2.2.1, q2.2.2)
set_option maxHeartbeats 4000000 in
set_option maxRecDepth 100000 in
theorem alX8_days : ∀ (n : Nat), ∀ {I : Nat → Nat → Int32} {J : Nat → Nat → Int64} {x1 : Int32} {x2 : Int32} {x3 : Int32} {I' : Nat → Nat → Int32} {J' : Nat → Nat → Int64} {r : Int32}, LX8_days n I J x1 x2 x3 = some (r, I', J') → am_E 2 nX8_days (25, [.ref 0, .int x1, .int x2, .int x3], [], (TM, I, J, RM)) (fun v M' => v = some (.int r) ∧ M' = (TM, I', J', RM)) := by
  intro n
  induction n with
  | zero => intros; contradiction
  | succ n ih =>
    intro I J x1 x2 x3 I' J' r h
    simp only [LX8_days] at h
    refine am_E.go (n := 1) rfl ?_
    refine am_E.brk rfl (fun hp => ?_) (fun hp => ?_)
    · have h := (if_pos hp).symm.trans h
      refine am_E.go (n := 3) rfl ?_
      cases h
      exact am_E.ret rfl ⟨rfl, rfl⟩
    · have h := (if_neg hp).symm.trans h
      refine am_E.go (n := 2) rfl ?_
      obtain ⟨q10, hq, h⟩ := am_bindI h
      obtain ⟨q10_1, q10_2, q10_3⟩ := q10
      refine am_E.callF rfl (by decide) (axX8_draw hq) ?_
      refine am_E.go (n := 2) rfl ?_
      obtain ⟨q11, hq, h⟩ := am_bindI h
      obtain ⟨q11_1, q11_2, q11_3⟩ := q11
      refine am_E.callF rfl (by decide) (axX8_goes hq) ?_
      refine am_E.go (n := 2) rfl ?_
      refine am_E.brk rfl (fun hp => ?_) (fun hp => ?_)
      · have h := (if_pos hp).symm.trans h
        refine am_E.go (n := 2) rfl ?_
        obtain ⟨q12, hq, h⟩ := am_bindI h
        obtain ⟨q12_1, q12_2, q12_3⟩ := q12
        refine am_E.callF rfl (by decide) (axX8_draw hq) ?_
        refine am_E.go (n := 0) rfl ?_
        obtain ⟨q13, hq, h⟩ := am_bindI h
        obtain ⟨q13_1, q13_2, q13_3⟩ := q13
        refine am_E.callF rfl (by decide) (axX8_puts hq) ?_
        refine am_E.go (n := 1) rfl ?_
        exact ih h
      · have h := (if_neg hp).symm.trans h
        refine am_E.go (n := 0) rfl ?_
        obtain ⟨q14, hq, h⟩ := am_bindI h
        obtain ⟨q14_1, q14_2, q14_3⟩ := q14
        refine am_E.callF rfl (by decide) (axX8_spray hq) ?_
        refine am_E.go (n := 3) rfl ?_
        obtain ⟨q15, hq, h⟩ := am_bindI h
        obtain ⟨q15_1, q15_2, q15_3⟩ := q15
        refine am_E.callF rfl (by decide) (axX8_draw hq) ?_
        refine am_E.go (n := 0) rfl ?_
        obtain ⟨q16, hq, h⟩ := am_bindI h
        obtain ⟨q16_1, q16_2, q16_3⟩ := q16
        refine am_E.callF rfl (by decide) (axX8_puts hq) ?_
        refine am_E.go (n := 1) rfl ?_
        exact ih h
set_option maxHeartbeats 4000000 in
set_option maxRecDepth 100000 in
theorem axX8_days {I : Nat → Nat → Int32} {J : Nat → Nat → Int64} {a0 : Int32} {r : Int32} {I' : Nat → Nat → Int32} {J' : Nat → Nat → Int64} (h : DX8_days I J a0 = some (r, I', J')) : am_F 2 nX8_days [.ref 0, .int a0, .retAddr 0, .retAddr 0] (TM, I, J, RM) (some (.int r)) (TM, I', J', RM) := by
  unfold DX8_days at h
  unfold am_F
  refine am_E.go (n := 1) rfl ?_
  refine am_E.brk rfl (fun hp => ?_) (fun hp => ?_)
  · have h := (if_pos hp).symm.trans h
    refine am_E.go (n := 1) rfl ?_
    obtain ⟨q1, hq, h⟩ := am_bindI h
    obtain ⟨q1_1, q1_2, q1_3⟩ := q1
    refine am_E.callF rfl (by decide) (axX8_no hq) ?_
    cases h
    exact am_E.ret rfl ⟨rfl, rfl⟩
  · have h := (if_neg hp).symm.trans h
    refine am_E.go (n := 1) rfl ?_
    refine am_E.brk rfl (fun hp => ?_) (fun hp => ?_)
    · have h := (if_pos hp).symm.trans h
      refine am_E.go (n := 4) rfl ?_
      exact (alX8_days am_FU) h
    · have h := (if_neg hp).symm.trans h
      refine am_E.go (n := 1) rfl ?_
      obtain ⟨q2, hq, h⟩ := am_bindI h
      obtain ⟨q2_1, q2_2, q2_3⟩ := q2
      refine am_E.callF rfl (by decide) (axX8_no hq) ?_
      cases h
      exact am_E.ret rfl ⟨rfl, rfl⟩
def DX8_seed (I : Nat → Nat → Int32) (J : Nat → Nat → Int64) (a0 : Int32) : Option (Int32 × (Nat → Nat → Int32) × (Nat → Nat → Int64)) :=
  some ((I 0 5), (am_upI I 0 5 a0), J)
set_option maxHeartbeats 4000000 in
set_option maxRecDepth 100000 in
theorem axX8_seed {I : Nat → Nat → Int32} {J : Nat → Nat → Int64} {a0 : Int32} {r : Int32} {I' : Nat → Nat → Int32} {J' : Nat → Nat → Int64} (h : DX8_seed I J a0 = some (r, I', J')) : am_F 0 nX8_seed [.ref 0, .int a0, .retAddr 0] (TM, I, J, RM) (some (.int r)) (TM, I', J', RM) := by
  unfold DX8_seed at h
  unfold am_F
  refine am_E.go (n := 6) rfl ?_
  cases h
  exact am_E.ret rfl ⟨rfl, rfl⟩
def DX8_body (I : Nat → Nat → Int32) (J : Nat → Nat → Int64) (a0 : Int32) : Option (Int32 × (Nat → Nat → Int32) × (Nat → Nat → Int64)) :=
  if (20 : Int32) ≤ (I 0 37) then
    some ((0 : Int32), (am_upI I 0 37 ((I 0 37) + (1 : Int32))), J)
  else
    if ¬ ((I 0 37) < 0 ∨ 20 ≤ ((I 0 37)).toNatClampNeg) then
      (some (am_upI ((am_upI I 25 ((I 0 37)).toNatClampNeg a0)) 0 37 ((((am_upI I 25 ((I 0 37)).toNatClampNeg a0)) 0 37) + (1 : Int32)))).bind fun I1 =>
      some ((0 : Int32), I1, J)
    else none
set_option maxHeartbeats 4000000 in
set_option maxRecDepth 100000 in
theorem axX8_body {I : Nat → Nat → Int32} {J : Nat → Nat → Int64} {a0 : Int32} {r : Int32} {I' : Nat → Nat → Int32} {J' : Nat → Nat → Int64} (h : DX8_body I J a0 = some (r, I', J')) : am_F 0 nX8_body [.ref 0, .int a0] (TM, I, J, RM) (none) (TM, I', J', RM) := by
  unfold DX8_body at h
  unfold am_F
  refine am_E.go (n := 2) rfl ?_
  refine am_E.brk rfl (fun hp => ?_) (fun hp => ?_)
  · have h := (if_pos hp).symm.trans h
    refine am_E.go (n := 5) rfl ?_
    cases h
    exact am_E.ret rfl ⟨rfl, rfl⟩
  · have h := (if_neg hp).symm.trans h
    refine am_E.go (n := 4) rfl ?_
    obtain ⟨hg, h⟩ := am_ifI h
    refine am_E.grd rfl hg ?_
    refine am_E.go (n := 5) rfl ?_
    obtain ⟨I1, hI, h⟩ := am_bindI h
    obtain rfl := Option.some.inj hI
    cases h
    exact am_E.ret rfl ⟨rfl, rfl⟩
def LX8_laying : Nat → Nat → (Nat → Nat → Int32) → (Nat → Nat → Int64) → Int32 → Int32 → Int32 → Option (Int32 × (Nat → Nat → Int32) × (Nat → Nat → Int64))
  | 0, _, _, _, _, _, _ => none
  | n + 1, 0, I, J, x1, x3, x4 =>
    if x3 = (1 : Int32) then
      if ¬ (x1 < 0 ∨ 8 ≤ (x1).toNatClampNeg) then
        LX8_laying n 1 I J x1 x3 ((x4 + (I 4 (x1).toNatClampNeg)))
      else none
    else
      if ¬ x3 = (3 : Int32) then
        LX8_laying n 1 I J x1 x3 x4
      else
        if ¬ (x1 < 0 ∨ 8 ≤ (x1).toNatClampNeg) then
          LX8_laying n 1 I J x1 x3 ((x4 + (I 4 (x1).toNatClampNeg)))
        else none
  | n + 1, 1, I, J, x1, x3, x4 =>
    if x3 = (4 : Int32) then
      LX8_laying n 2 I J 0 x3 ((x4 - x1))
    else
      if ¬ x3 = (5 : Int32) then
        LX8_laying n 2 I J 0 x3 x4
      else
        LX8_laying n 2 I J 0 x3 ((x4 - x1))
  | n + 1, _, I, J, x1, x3, x4 =>
    if ¬ x3 = (6 : Int32) then
      some (x4, I, J)
    else
      some ((x4 * (2 : Int32)), I, J)
def DX8_laying (I : Nat → Nat → Int32) (J : Nat → Nat → Int64) (a0 : Int32) (a1 : Int32) : Option (Int32 × (Nat → Nat → Int32) × (Nat → Nat → Int64)) :=
  if ¬ (a0 < 0 ∨ 8 ≤ (a0).toNatClampNeg) then
    if ¬ (I 2 (a0).toNatClampNeg) = (6 : Int32) then
      if (I 2 (a0).toNatClampNeg) = (4 : Int32) then
        (DX8_body I J ((51 : Int32))).bind fun q1 =>
        if (I 2 (a0).toNatClampNeg) = (1 : Int32) then
          (DX8_body q1.2.1 q1.2.2 ((20 : Int32))).bind fun q2 =>
          (DX8_body q2.2.1 q2.2.2 ((10 : Int32))).bind fun q3 =>
          LX8_laying am_FU 0 q3.2.1 q3.2.2 a0 ((I 2 (a0).toNatClampNeg)) ((a1 + a0))
        else
          if ¬ (I 2 (a0).toNatClampNeg) = (3 : Int32) then
            (DX8_body q1.2.1 q1.2.2 ((10 : Int32))).bind fun q4 =>
            LX8_laying am_FU 0 q4.2.1 q4.2.2 a0 ((I 2 (a0).toNatClampNeg)) ((a1 + a0))
          else
            (DX8_body q1.2.1 q1.2.2 ((20 : Int32))).bind fun q5 =>
            (DX8_body q5.2.1 q5.2.2 ((10 : Int32))).bind fun q6 =>
            LX8_laying am_FU 0 q6.2.1 q6.2.2 a0 ((I 2 (a0).toNatClampNeg)) ((a1 + a0))
      else
        if ¬ (I 2 (a0).toNatClampNeg) = (5 : Int32) then
          if (I 2 (a0).toNatClampNeg) = (1 : Int32) then
            (DX8_body I J ((20 : Int32))).bind fun q7 =>
            (DX8_body q7.2.1 q7.2.2 ((10 : Int32))).bind fun q8 =>
            LX8_laying am_FU 0 q8.2.1 q8.2.2 a0 ((I 2 (a0).toNatClampNeg)) ((a1 + a0))
          else
            if ¬ (I 2 (a0).toNatClampNeg) = (3 : Int32) then
              (DX8_body I J ((10 : Int32))).bind fun q9 =>
              LX8_laying am_FU 0 q9.2.1 q9.2.2 a0 ((I 2 (a0).toNatClampNeg)) ((a1 + a0))
            else
              (DX8_body I J ((20 : Int32))).bind fun q10 =>
              (DX8_body q10.2.1 q10.2.2 ((10 : Int32))).bind fun q11 =>
              LX8_laying am_FU 0 q11.2.1 q11.2.2 a0 ((I 2 (a0).toNatClampNeg)) ((a1 + a0))
        else
          (DX8_body I J ((51 : Int32))).bind fun q12 =>
          if (I 2 (a0).toNatClampNeg) = (1 : Int32) then
            (DX8_body q12.2.1 q12.2.2 ((20 : Int32))).bind fun q13 =>
            (DX8_body q13.2.1 q13.2.2 ((10 : Int32))).bind fun q14 =>
            LX8_laying am_FU 0 q14.2.1 q14.2.2 a0 ((I 2 (a0).toNatClampNeg)) ((a1 + a0))
          else
            if ¬ (I 2 (a0).toNatClampNeg) = (3 : Int32) then
              (DX8_body q12.2.1 q12.2.2 ((10 : Int32))).bind fun q15 =>
              LX8_laying am_FU 0 q15.2.1 q15.2.2 a0 ((I 2 (a0).toNatClampNeg)) ((a1 + a0))
            else
              (DX8_body q12.2.1 q12.2.2 ((20 : Int32))).bind fun q16 =>
              (DX8_body q16.2.1 q16.2.2 ((10 : Int32))).bind fun q17 =>
              LX8_laying am_FU 0 q17.2.1 q17.2.2 a0 ((I 2 (a0).toNatClampNeg)) ((a1 + a0))
    else
      (DX8_body I J ((70 : Int32))).bind fun q18 =>
      if (I 2 (a0).toNatClampNeg) = (4 : Int32) then
        (DX8_body q18.2.1 q18.2.2 ((51 : Int32))).bind fun q19 =>
        if (I 2 (a0).toNatClampNeg) = (1 : Int32) then
          (DX8_body q19.2.1 q19.2.2 ((20 : Int32))).bind fun q20 =>
          (DX8_body q20.2.1 q20.2.2 ((10 : Int32))).bind fun q21 =>
          LX8_laying am_FU 0 q21.2.1 q21.2.2 a0 ((I 2 (a0).toNatClampNeg)) ((a1 + a0))
        else
          if ¬ (I 2 (a0).toNatClampNeg) = (3 : Int32) then
            (DX8_body q19.2.1 q19.2.2 ((10 : Int32))).bind fun q22 =>
            LX8_laying am_FU 0 q22.2.1 q22.2.2 a0 ((I 2 (a0).toNatClampNeg)) ((a1 + a0))
          else
            (DX8_body q19.2.1 q19.2.2 ((20 : Int32))).bind fun q23 =>
            (DX8_body q23.2.1 q23.2.2 ((10 : Int32))).bind fun q24 =>
            LX8_laying am_FU 0 q24.2.1 q24.2.2 a0 ((I 2 (a0).toNatClampNeg)) ((a1 + a0))
      else
        if ¬ (I 2 (a0).toNatClampNeg) = (5 : Int32) then
          if (I 2 (a0).toNatClampNeg) = (1 : Int32) then
            (DX8_body q18.2.1 q18.2.2 ((20 : Int32))).bind fun q25 =>
            (DX8_body q25.2.1 q25.2.2 ((10 : Int32))).bind fun q26 =>
            LX8_laying am_FU 0 q26.2.1 q26.2.2 a0 ((I 2 (a0).toNatClampNeg)) ((a1 + a0))
          else
            if ¬ (I 2 (a0).toNatClampNeg) = (3 : Int32) then
              (DX8_body q18.2.1 q18.2.2 ((10 : Int32))).bind fun q27 =>
              LX8_laying am_FU 0 q27.2.1 q27.2.2 a0 ((I 2 (a0).toNatClampNeg)) ((a1 + a0))
            else
              (DX8_body q18.2.1 q18.2.2 ((20 : Int32))).bind fun q28 =>
              (DX8_body q28.2.1 q28.2.2 ((10 : Int32))).bind fun q29 =>
              LX8_laying am_FU 0 q29.2.1 q29.2.2 a0 ((I 2 (a0).toNatClampNeg)) ((a1 + a0))
        else
          (DX8_body q18.2.1 q18.2.2 ((51 : Int32))).bind fun q30 =>
          if (I 2 (a0).toNatClampNeg) = (1 : Int32) then
            (DX8_body q30.2.1 q30.2.2 ((20 : Int32))).bind fun q31 =>
            (DX8_body q31.2.1 q31.2.2 ((10 : Int32))).bind fun q32 =>
            LX8_laying am_FU 0 q32.2.1 q32.2.2 a0 ((I 2 (a0).toNatClampNeg)) ((a1 + a0))
          else
            if ¬ (I 2 (a0).toNatClampNeg) = (3 : Int32) then
              (DX8_body q30.2.1 q30.2.2 ((10 : Int32))).bind fun q33 =>
              LX8_laying am_FU 0 q33.2.1 q33.2.2 a0 ((I 2 (a0).toNatClampNeg)) ((a1 + a0))
            else
              (DX8_body q30.2.1 q30.2.2 ((20 : Int32))).bind fun q34 =>
              (DX8_body q34.2.1 q34.2.2 ((10 : Int32))).bind fun q35 =>
              LX8_laying am_FU 0 q35.2.1 q35.2.2 a0 ((I 2 (a0).toNatClampNeg)) ((a1 + a0))
  else none
set_option maxHeartbeats 4000000 in
set_option maxRecDepth 100000 in
theorem alX8_laying : ∀ (n : Nat), (∀ {I : Nat → Nat → Int32} {J : Nat → Nat → Int64} {x1 : Int32} {x3 : Int32} {x4 : Int32} {I' : Nat → Nat → Int32} {J' : Nat → Nat → Int64} {r : Int32}, LX8_laying n 0 I J x1 x3 x4 = some (r, I', J') → am_E 1 nX8_laying (62, [.ref 0, .int x1, .retAddr 0, .int x3, .int x4], [], (TM, I, J, RM)) (fun v M' => v = some (.int r) ∧ M' = (TM, I', J', RM))) ∧
    (∀ {I : Nat → Nat → Int32} {J : Nat → Nat → Int64} {x1 : Int32} {x3 : Int32} {x4 : Int32} {I' : Nat → Nat → Int32} {J' : Nat → Nat → Int64} {r : Int32}, LX8_laying n 1 I J x1 x3 x4 = some (r, I', J') → am_E 1 nX8_laying (83, [.retAddr 0, .int x1, .retAddr 0, .int x3, .int x4], [], (TM, I, J, RM)) (fun v M' => v = some (.int r) ∧ M' = (TM, I', J', RM))) ∧
    (∀ {I : Nat → Nat → Int32} {J : Nat → Nat → Int64} {x1 : Int32} {x3 : Int32} {x4 : Int32} {I' : Nat → Nat → Int32} {J' : Nat → Nat → Int64} {r : Int32}, LX8_laying n 2 I J x1 x3 x4 = some (r, I', J') → am_E 1 nX8_laying (99, [.retAddr 0, .retAddr 0, .retAddr 0, .int x3, .int x4], [], (TM, I, J, RM)) (fun v M' => v = some (.int r) ∧ M' = (TM, I', J', RM))) := by
  intro n
  induction n with
  | zero => exact ⟨by intros; contradiction, by intros; contradiction, by intros; contradiction⟩
  | succ n ih =>
    refine ⟨?_, ?_, ?_⟩
    · intro I J x1 x3 x4 I' J' r h
      simp only [LX8_laying] at h
      refine am_E.go (n := 1) rfl ?_
      refine am_E.brk rfl (fun hp => ?_) (fun hp => ?_)
      · have h := (if_pos hp).symm.trans h
        refine am_E.go (n := 3) rfl ?_
        obtain ⟨hg, h⟩ := am_ifI h
        refine am_E.grd rfl hg ?_
        refine am_E.go (n := 1) rfl ?_
        refine am_E.less (ls0 := [.retAddr 0, _, .retAddr 0, _, _]) ?_ ⟨Or.inr ⟨rfl, rfl⟩, Or.inl rfl, Or.inl rfl, Or.inl rfl, Or.inl rfl, trivial⟩
        exact ih.2.1 h
      · have h := (if_neg hp).symm.trans h
        refine am_E.go (n := 1) rfl ?_
        refine am_E.brk rfl (fun hp => ?_) (fun hp => ?_)
        · have h := (if_pos hp).symm.trans h
          refine am_E.less (ls0 := [.retAddr 0, _, .retAddr 0, _, _]) ?_ ⟨Or.inr ⟨rfl, rfl⟩, Or.inl rfl, Or.inl rfl, Or.inl rfl, Or.inl rfl, trivial⟩
          exact ih.2.1 h
        · have h := (if_neg hp).symm.trans h
          refine am_E.go (n := 3) rfl ?_
          obtain ⟨hg, h⟩ := am_ifI h
          refine am_E.grd rfl hg ?_
          refine am_E.go (n := 1) rfl ?_
          refine am_E.less (ls0 := [.retAddr 0, _, .retAddr 0, _, _]) ?_ ⟨Or.inr ⟨rfl, rfl⟩, Or.inl rfl, Or.inl rfl, Or.inl rfl, Or.inl rfl, trivial⟩
          exact ih.2.1 h
    · intro I J x1 x3 x4 I' J' r h
      simp only [LX8_laying] at h
      refine am_E.go (n := 1) rfl ?_
      refine am_E.brk rfl (fun hp => ?_) (fun hp => ?_)
      · have h := (if_pos hp).symm.trans h
        refine am_E.go (n := 3) rfl ?_
        refine am_E.less (ls0 := [.retAddr 0, .retAddr 0, .retAddr 0, _, _]) ?_ ⟨Or.inl rfl, Or.inr ⟨rfl, rfl⟩, Or.inl rfl, Or.inl rfl, Or.inl rfl, trivial⟩
        exact ih.2.2 h
      · have h := (if_neg hp).symm.trans h
        refine am_E.go (n := 1) rfl ?_
        refine am_E.brk rfl (fun hp => ?_) (fun hp => ?_)
        · have h := (if_pos hp).symm.trans h
          refine am_E.less (ls0 := [.retAddr 0, .retAddr 0, .retAddr 0, _, _]) ?_ ⟨Or.inl rfl, Or.inr ⟨rfl, rfl⟩, Or.inl rfl, Or.inl rfl, Or.inl rfl, trivial⟩
          exact ih.2.2 h
        · have h := (if_neg hp).symm.trans h
          refine am_E.go (n := 3) rfl ?_
          refine am_E.less (ls0 := [.retAddr 0, .retAddr 0, .retAddr 0, _, _]) ?_ ⟨Or.inl rfl, Or.inr ⟨rfl, rfl⟩, Or.inl rfl, Or.inl rfl, Or.inl rfl, trivial⟩
          exact ih.2.2 h
    · intro I J x1 x3 x4 I' J' r h
      simp only [LX8_laying] at h
      refine am_E.go (n := 1) rfl ?_
      refine am_E.brk rfl (fun hp => ?_) (fun hp => ?_)
      · have h := (if_pos hp).symm.trans h
        refine am_E.go (n := 0) rfl ?_
        cases h
        exact am_E.ret rfl ⟨rfl, rfl⟩
      · have h := (if_neg hp).symm.trans h
        refine am_E.go (n := 3) rfl ?_
        cases h
        exact am_E.ret rfl ⟨rfl, rfl⟩
set_option maxHeartbeats 4000000 in
set_option maxRecDepth 100000 in
theorem axX8_laying {I : Nat → Nat → Int32} {J : Nat → Nat → Int64} {a0 : Int32} {a1 : Int32} {r : Int32} {I' : Nat → Nat → Int32} {J' : Nat → Nat → Int64} (h : DX8_laying I J a0 a1 = some (r, I', J')) : am_F 1 nX8_laying [.ref 0, .int a0, .int a1, .retAddr 0, .retAddr 0] (TM, I, J, RM) (some (.int r)) (TM, I', J', RM) := by
  unfold DX8_laying at h
  unfold am_F
  refine am_E.go (n := 2) rfl ?_
  obtain ⟨hg, h⟩ := am_ifI h
  refine am_E.grd rfl hg ?_
  refine am_E.go (n := 2) rfl ?_
  refine am_E.brk rfl (fun hp => ?_) (fun hp => ?_)
  · have h := (if_pos hp).symm.trans h
    refine am_E.go (n := 1) rfl ?_
    refine am_E.brk rfl (fun hp => ?_) (fun hp => ?_)
    · have h := (if_pos hp).symm.trans h
      refine am_E.go (n := 1) rfl ?_
      obtain ⟨q1, hq, h⟩ := am_bindI h
      obtain ⟨q1_1, q1_2, q1_3⟩ := q1
      refine am_E.callF rfl (by decide) (axX8_body hq) ?_
      refine am_E.go (n := 1) rfl ?_
      refine am_E.brk rfl (fun hp => ?_) (fun hp => ?_)
      · have h := (if_pos hp).symm.trans h
        refine am_E.go (n := 1) rfl ?_
        obtain ⟨q2, hq, h⟩ := am_bindI h
        obtain ⟨q2_1, q2_2, q2_3⟩ := q2
        refine am_E.callF rfl (by decide) (axX8_body hq) ?_
        refine am_E.go (n := 1) rfl ?_
        obtain ⟨q3, hq, h⟩ := am_bindI h
        obtain ⟨q3_1, q3_2, q3_3⟩ := q3
        refine am_E.callF rfl (by decide) (axX8_body hq) ?_
        refine am_E.go (n := 3) rfl ?_
        refine am_E.less (ls0 := [_, _, .retAddr 0, _, _]) ?_ ⟨Or.inl rfl, Or.inl rfl, Or.inr ⟨rfl, rfl⟩, Or.inl rfl, Or.inl rfl, trivial⟩
        exact (alX8_laying am_FU).1 h
      · have h := (if_neg hp).symm.trans h
        refine am_E.go (n := 1) rfl ?_
        refine am_E.brk rfl (fun hp => ?_) (fun hp => ?_)
        · have h := (if_pos hp).symm.trans h
          refine am_E.go (n := 1) rfl ?_
          obtain ⟨q4, hq, h⟩ := am_bindI h
          obtain ⟨q4_1, q4_2, q4_3⟩ := q4
          refine am_E.callF rfl (by decide) (axX8_body hq) ?_
          refine am_E.go (n := 3) rfl ?_
          refine am_E.less (ls0 := [_, _, .retAddr 0, _, _]) ?_ ⟨Or.inl rfl, Or.inl rfl, Or.inr ⟨rfl, rfl⟩, Or.inl rfl, Or.inl rfl, trivial⟩
          exact (alX8_laying am_FU).1 h
        · have h := (if_neg hp).symm.trans h
          refine am_E.go (n := 1) rfl ?_
          obtain ⟨q5, hq, h⟩ := am_bindI h
          obtain ⟨q5_1, q5_2, q5_3⟩ := q5
          refine am_E.callF rfl (by decide) (axX8_body hq) ?_
          refine am_E.go (n := 1) rfl ?_
          obtain ⟨q6, hq, h⟩ := am_bindI h
          obtain ⟨q6_1, q6_2, q6_3⟩ := q6
          refine am_E.callF rfl (by decide) (axX8_body hq) ?_
          refine am_E.go (n := 3) rfl ?_
          refine am_E.less (ls0 := [_, _, .retAddr 0, _, _]) ?_ ⟨Or.inl rfl, Or.inl rfl, Or.inr ⟨rfl, rfl⟩, Or.inl rfl, Or.inl rfl, trivial⟩
          exact (alX8_laying am_FU).1 h
    · have h := (if_neg hp).symm.trans h
      refine am_E.go (n := 1) rfl ?_
      refine am_E.brk rfl (fun hp => ?_) (fun hp => ?_)
      · have h := (if_pos hp).symm.trans h
        refine am_E.go (n := 1) rfl ?_
        refine am_E.brk rfl (fun hp => ?_) (fun hp => ?_)
        · have h := (if_pos hp).symm.trans h
          refine am_E.go (n := 1) rfl ?_
          obtain ⟨q7, hq, h⟩ := am_bindI h
          obtain ⟨q7_1, q7_2, q7_3⟩ := q7
          refine am_E.callF rfl (by decide) (axX8_body hq) ?_
          refine am_E.go (n := 1) rfl ?_
          obtain ⟨q8, hq, h⟩ := am_bindI h
          obtain ⟨q8_1, q8_2, q8_3⟩ := q8
          refine am_E.callF rfl (by decide) (axX8_body hq) ?_
          refine am_E.go (n := 3) rfl ?_
          refine am_E.less (ls0 := [_, _, .retAddr 0, _, _]) ?_ ⟨Or.inl rfl, Or.inl rfl, Or.inr ⟨rfl, rfl⟩, Or.inl rfl, Or.inl rfl, trivial⟩
          exact (alX8_laying am_FU).1 h
        · have h := (if_neg hp).symm.trans h
          refine am_E.go (n := 1) rfl ?_
          refine am_E.brk rfl (fun hp => ?_) (fun hp => ?_)
          · have h := (if_pos hp).symm.trans h
            refine am_E.go (n := 1) rfl ?_
            obtain ⟨q9, hq, h⟩ := am_bindI h
            obtain ⟨q9_1, q9_2, q9_3⟩ := q9
            refine am_E.callF rfl (by decide) (axX8_body hq) ?_
            refine am_E.go (n := 3) rfl ?_
            refine am_E.less (ls0 := [_, _, .retAddr 0, _, _]) ?_ ⟨Or.inl rfl, Or.inl rfl, Or.inr ⟨rfl, rfl⟩, Or.inl rfl, Or.inl rfl, trivial⟩
            exact (alX8_laying am_FU).1 h
          · have h := (if_neg hp).symm.trans h
            refine am_E.go (n := 1) rfl ?_
            obtain ⟨q10, hq, h⟩ := am_bindI h
            obtain ⟨q10_1, q10_2, q10_3⟩ := q10
            refine am_E.callF rfl (by decide) (axX8_body hq) ?_
            refine am_E.go (n := 1) rfl ?_
            obtain ⟨q11, hq, h⟩ := am_bindI h
            obtain ⟨q11_1, q11_2, q11_3⟩ := q11
            refine am_E.callF rfl (by decide) (axX8_body hq) ?_
            refine am_E.go (n := 3) rfl ?_
            refine am_E.less (ls0 := [_, _, .retAddr 0, _, _]) ?_ ⟨Or.inl rfl, Or.inl rfl, Or.inr ⟨rfl, rfl⟩, Or.inl rfl, Or.inl rfl, trivial⟩
            exact (alX8_laying am_FU).1 h
      · have h := (if_neg hp).symm.trans h
        refine am_E.go (n := 1) rfl ?_
        obtain ⟨q12, hq, h⟩ := am_bindI h
        obtain ⟨q12_1, q12_2, q12_3⟩ := q12
        refine am_E.callF rfl (by decide) (axX8_body hq) ?_
        refine am_E.go (n := 1) rfl ?_
        refine am_E.brk rfl (fun hp => ?_) (fun hp => ?_)
        · have h := (if_pos hp).symm.trans h
          refine am_E.go (n := 1) rfl ?_
          obtain ⟨q13, hq, h⟩ := am_bindI h
          obtain ⟨q13_1, q13_2, q13_3⟩ := q13
          refine am_E.callF rfl (by decide) (axX8_body hq) ?_
          refine am_E.go (n := 1) rfl ?_
          obtain ⟨q14, hq, h⟩ := am_bindI h
          obtain ⟨q14_1, q14_2, q14_3⟩ := q14
          refine am_E.callF rfl (by decide) (axX8_body hq) ?_
          refine am_E.go (n := 3) rfl ?_
          refine am_E.less (ls0 := [_, _, .retAddr 0, _, _]) ?_ ⟨Or.inl rfl, Or.inl rfl, Or.inr ⟨rfl, rfl⟩, Or.inl rfl, Or.inl rfl, trivial⟩
          exact (alX8_laying am_FU).1 h
        · have h := (if_neg hp).symm.trans h
          refine am_E.go (n := 1) rfl ?_
          refine am_E.brk rfl (fun hp => ?_) (fun hp => ?_)
          · have h := (if_pos hp).symm.trans h
            refine am_E.go (n := 1) rfl ?_
            obtain ⟨q15, hq, h⟩ := am_bindI h
            obtain ⟨q15_1, q15_2, q15_3⟩ := q15
            refine am_E.callF rfl (by decide) (axX8_body hq) ?_
            refine am_E.go (n := 3) rfl ?_
            refine am_E.less (ls0 := [_, _, .retAddr 0, _, _]) ?_ ⟨Or.inl rfl, Or.inl rfl, Or.inr ⟨rfl, rfl⟩, Or.inl rfl, Or.inl rfl, trivial⟩
            exact (alX8_laying am_FU).1 h
          · have h := (if_neg hp).symm.trans h
            refine am_E.go (n := 1) rfl ?_
            obtain ⟨q16, hq, h⟩ := am_bindI h
            obtain ⟨q16_1, q16_2, q16_3⟩ := q16
            refine am_E.callF rfl (by decide) (axX8_body hq) ?_
            refine am_E.go (n := 1) rfl ?_
            obtain ⟨q17, hq, h⟩ := am_bindI h
            obtain ⟨q17_1, q17_2, q17_3⟩ := q17
            refine am_E.callF rfl (by decide) (axX8_body hq) ?_
            refine am_E.go (n := 3) rfl ?_
            refine am_E.less (ls0 := [_, _, .retAddr 0, _, _]) ?_ ⟨Or.inl rfl, Or.inl rfl, Or.inr ⟨rfl, rfl⟩, Or.inl rfl, Or.inl rfl, trivial⟩
            exact (alX8_laying am_FU).1 h
  · have h := (if_neg hp).symm.trans h
    refine am_E.go (n := 1) rfl ?_
    obtain ⟨q18, hq, h⟩ := am_bindI h
    obtain ⟨q18_1, q18_2, q18_3⟩ := q18
    refine am_E.callF rfl (by decide) (axX8_body hq) ?_
    refine am_E.go (n := 1) rfl ?_
    refine am_E.brk rfl (fun hp => ?_) (fun hp => ?_)
    · have h := (if_pos hp).symm.trans h
      refine am_E.go (n := 1) rfl ?_
      obtain ⟨q19, hq, h⟩ := am_bindI h
      obtain ⟨q19_1, q19_2, q19_3⟩ := q19
      refine am_E.callF rfl (by decide) (axX8_body hq) ?_
      refine am_E.go (n := 1) rfl ?_
      refine am_E.brk rfl (fun hp => ?_) (fun hp => ?_)
      · have h := (if_pos hp).symm.trans h
        refine am_E.go (n := 1) rfl ?_
        obtain ⟨q20, hq, h⟩ := am_bindI h
        obtain ⟨q20_1, q20_2, q20_3⟩ := q20
        refine am_E.callF rfl (by decide) (axX8_body hq) ?_
        refine am_E.go (n := 1) rfl ?_
        obtain ⟨q21, hq, h⟩ := am_bindI h
        obtain ⟨q21_1, q21_2, q21_3⟩ := q21
        refine am_E.callF rfl (by decide) (axX8_body hq) ?_
        refine am_E.go (n := 3) rfl ?_
        refine am_E.less (ls0 := [_, _, .retAddr 0, _, _]) ?_ ⟨Or.inl rfl, Or.inl rfl, Or.inr ⟨rfl, rfl⟩, Or.inl rfl, Or.inl rfl, trivial⟩
        exact (alX8_laying am_FU).1 h
      · have h := (if_neg hp).symm.trans h
        refine am_E.go (n := 1) rfl ?_
        refine am_E.brk rfl (fun hp => ?_) (fun hp => ?_)
        · have h := (if_pos hp).symm.trans h
          refine am_E.go (n := 1) rfl ?_
          obtain ⟨q22, hq, h⟩ := am_bindI h
          obtain ⟨q22_1, q22_2, q22_3⟩ := q22
          refine am_E.callF rfl (by decide) (axX8_body hq) ?_
          refine am_E.go (n := 3) rfl ?_
          refine am_E.less (ls0 := [_, _, .retAddr 0, _, _]) ?_ ⟨Or.inl rfl, Or.inl rfl, Or.inr ⟨rfl, rfl⟩, Or.inl rfl, Or.inl rfl, trivial⟩
          exact (alX8_laying am_FU).1 h
        · have h := (if_neg hp).symm.trans h
          refine am_E.go (n := 1) rfl ?_
          obtain ⟨q23, hq, h⟩ := am_bindI h
          obtain ⟨q23_1, q23_2, q23_3⟩ := q23
          refine am_E.callF rfl (by decide) (axX8_body hq) ?_
          refine am_E.go (n := 1) rfl ?_
          obtain ⟨q24, hq, h⟩ := am_bindI h
          obtain ⟨q24_1, q24_2, q24_3⟩ := q24
          refine am_E.callF rfl (by decide) (axX8_body hq) ?_
          refine am_E.go (n := 3) rfl ?_
          refine am_E.less (ls0 := [_, _, .retAddr 0, _, _]) ?_ ⟨Or.inl rfl, Or.inl rfl, Or.inr ⟨rfl, rfl⟩, Or.inl rfl, Or.inl rfl, trivial⟩
          exact (alX8_laying am_FU).1 h
    · have h := (if_neg hp).symm.trans h
      refine am_E.go (n := 1) rfl ?_
      refine am_E.brk rfl (fun hp => ?_) (fun hp => ?_)
      · have h := (if_pos hp).symm.trans h
        refine am_E.go (n := 1) rfl ?_
        refine am_E.brk rfl (fun hp => ?_) (fun hp => ?_)
        · have h := (if_pos hp).symm.trans h
          refine am_E.go (n := 1) rfl ?_
          obtain ⟨q25, hq, h⟩ := am_bindI h
          obtain ⟨q25_1, q25_2, q25_3⟩ := q25
          refine am_E.callF rfl (by decide) (axX8_body hq) ?_
          refine am_E.go (n := 1) rfl ?_
          obtain ⟨q26, hq, h⟩ := am_bindI h
          obtain ⟨q26_1, q26_2, q26_3⟩ := q26
          refine am_E.callF rfl (by decide) (axX8_body hq) ?_
          refine am_E.go (n := 3) rfl ?_
          refine am_E.less (ls0 := [_, _, .retAddr 0, _, _]) ?_ ⟨Or.inl rfl, Or.inl rfl, Or.inr ⟨rfl, rfl⟩, Or.inl rfl, Or.inl rfl, trivial⟩
          exact (alX8_laying am_FU).1 h
        · have h := (if_neg hp).symm.trans h
          refine am_E.go (n := 1) rfl ?_
          refine am_E.brk rfl (fun hp => ?_) (fun hp => ?_)
          · have h := (if_pos hp).symm.trans h
            refine am_E.go (n := 1) rfl ?_
            obtain ⟨q27, hq, h⟩ := am_bindI h
            obtain ⟨q27_1, q27_2, q27_3⟩ := q27
            refine am_E.callF rfl (by decide) (axX8_body hq) ?_
            refine am_E.go (n := 3) rfl ?_
            refine am_E.less (ls0 := [_, _, .retAddr 0, _, _]) ?_ ⟨Or.inl rfl, Or.inl rfl, Or.inr ⟨rfl, rfl⟩, Or.inl rfl, Or.inl rfl, trivial⟩
            exact (alX8_laying am_FU).1 h
          · have h := (if_neg hp).symm.trans h
            refine am_E.go (n := 1) rfl ?_
            obtain ⟨q28, hq, h⟩ := am_bindI h
            obtain ⟨q28_1, q28_2, q28_3⟩ := q28
            refine am_E.callF rfl (by decide) (axX8_body hq) ?_
            refine am_E.go (n := 1) rfl ?_
            obtain ⟨q29, hq, h⟩ := am_bindI h
            obtain ⟨q29_1, q29_2, q29_3⟩ := q29
            refine am_E.callF rfl (by decide) (axX8_body hq) ?_
            refine am_E.go (n := 3) rfl ?_
            refine am_E.less (ls0 := [_, _, .retAddr 0, _, _]) ?_ ⟨Or.inl rfl, Or.inl rfl, Or.inr ⟨rfl, rfl⟩, Or.inl rfl, Or.inl rfl, trivial⟩
            exact (alX8_laying am_FU).1 h
      · have h := (if_neg hp).symm.trans h
        refine am_E.go (n := 1) rfl ?_
        obtain ⟨q30, hq, h⟩ := am_bindI h
        obtain ⟨q30_1, q30_2, q30_3⟩ := q30
        refine am_E.callF rfl (by decide) (axX8_body hq) ?_
        refine am_E.go (n := 1) rfl ?_
        refine am_E.brk rfl (fun hp => ?_) (fun hp => ?_)
        · have h := (if_pos hp).symm.trans h
          refine am_E.go (n := 1) rfl ?_
          obtain ⟨q31, hq, h⟩ := am_bindI h
          obtain ⟨q31_1, q31_2, q31_3⟩ := q31
          refine am_E.callF rfl (by decide) (axX8_body hq) ?_
          refine am_E.go (n := 1) rfl ?_
          obtain ⟨q32, hq, h⟩ := am_bindI h
          obtain ⟨q32_1, q32_2, q32_3⟩ := q32
          refine am_E.callF rfl (by decide) (axX8_body hq) ?_
          refine am_E.go (n := 3) rfl ?_
          refine am_E.less (ls0 := [_, _, .retAddr 0, _, _]) ?_ ⟨Or.inl rfl, Or.inl rfl, Or.inr ⟨rfl, rfl⟩, Or.inl rfl, Or.inl rfl, trivial⟩
          exact (alX8_laying am_FU).1 h
        · have h := (if_neg hp).symm.trans h
          refine am_E.go (n := 1) rfl ?_
          refine am_E.brk rfl (fun hp => ?_) (fun hp => ?_)
          · have h := (if_pos hp).symm.trans h
            refine am_E.go (n := 1) rfl ?_
            obtain ⟨q33, hq, h⟩ := am_bindI h
            obtain ⟨q33_1, q33_2, q33_3⟩ := q33
            refine am_E.callF rfl (by decide) (axX8_body hq) ?_
            refine am_E.go (n := 3) rfl ?_
            refine am_E.less (ls0 := [_, _, .retAddr 0, _, _]) ?_ ⟨Or.inl rfl, Or.inl rfl, Or.inr ⟨rfl, rfl⟩, Or.inl rfl, Or.inl rfl, trivial⟩
            exact (alX8_laying am_FU).1 h
          · have h := (if_neg hp).symm.trans h
            refine am_E.go (n := 1) rfl ?_
            obtain ⟨q34, hq, h⟩ := am_bindI h
            obtain ⟨q34_1, q34_2, q34_3⟩ := q34
            refine am_E.callF rfl (by decide) (axX8_body hq) ?_
            refine am_E.go (n := 1) rfl ?_
            obtain ⟨q35, hq, h⟩ := am_bindI h
            obtain ⟨q35_1, q35_2, q35_3⟩ := q35
            refine am_E.callF rfl (by decide) (axX8_body hq) ?_
            refine am_E.go (n := 3) rfl ?_
            refine am_E.less (ls0 := [_, _, .retAddr 0, _, _]) ?_ ⟨Or.inl rfl, Or.inl rfl, Or.inr ⟨rfl, rfl⟩, Or.inl rfl, Or.inl rfl, trivial⟩
            exact (alX8_laying am_FU).1 h
