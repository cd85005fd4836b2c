/-! THE METHODS AS FUNCTIONS over the memory, and the row that their runs do so: laid by program (wip/whole/decomp.py) -/
def DX8_beauty (I : Nat → Nat → Int32) (J : Nat → Nat → Int64) (a0 : Int32) (a1 : Int32) : Option (Int32 × (Nat → Nat → Int32) × (Nat → Nat → Int64)) :=
  if ¬ (DX8_isCell a0) = 0 then
    if (DX8_isHour a1) = 0 then
      (DX8_no I J ((-6 : Int32))).bind fun q1 =>
      some (q1.1, q1.2.1, q1.2.2)
    else
      (DX8_beautyAt I a0 a1).bind fun q2 =>
      some (q2, I, J)
  else
    (DX8_no I J ((-1 : Int32))).bind fun q3 =>
    some (q3.1, q3.2.1, q3.2.2)
set_option maxHeartbeats 4000000 in
set_option maxRecDepth 100000 in
theorem axX8_beauty {I : Nat → Nat → Int32} {J : Nat → Nat → Int64} {a0 : Int32} {a1 : Int32} {r : Int32} {I' : Nat → Nat → Int32} {J' : Nat → Nat → Int64} (h : DX8_beauty I J a0 a1 = some (r, I', J')) : am_F 4 nX8_beauty [.ref 0, .int a0, .int a1] (TM, I, J, RM) (some (.int r)) (TM, I', J', RM) := by
  unfold DX8_beauty at h
  unfold am_F
  refine am_E.go (n := 1) rfl ?_
  refine am_E.callF rfl (by decide) (axX8_isCell rfl) ?_
  refine am_E.brk rfl (fun hp => ?_) (fun hp => ?_)
  · have h := (if_pos hp).symm.trans h
    refine am_E.go (n := 1) rfl ?_
    refine am_E.callF rfl (by decide) (axX8_isHour rfl) ?_
    refine am_E.brk rfl (fun hp => ?_) (fun hp => ?_)
    · have h := (if_pos hp).symm.trans h
      refine am_E.go (n := 1) rfl ?_
      obtain ⟨q1, hq, h⟩ := am_bindI h
      obtain ⟨q1_1, q1_2, q1_3⟩ := q1
      refine am_E.callF rfl (by decide) (axX8_no hq) ?_
      cases h
      exact am_E.ret rfl ⟨rfl, rfl⟩
    · have h := (if_neg hp).symm.trans h
      refine am_E.go (n := 2) rfl ?_
      obtain ⟨q2, hq, h⟩ := am_bindI h
      refine am_E.callF rfl (by decide) (axX8_beautyAt hq) ?_
      refine am_E.go (n := 0) rfl ?_
      cases h
      exact am_E.ret rfl ⟨rfl, rfl⟩
  · have h := (if_neg hp).symm.trans h
    refine am_E.go (n := 1) rfl ?_
    obtain ⟨q3, hq, h⟩ := am_bindI h
    obtain ⟨q3_1, q3_2, q3_3⟩ := q3
    refine am_E.callF rfl (by decide) (axX8_no hq) ?_
    cases h
    exact am_E.ret rfl ⟨rfl, rfl⟩
def DX8_looks (I : Nat → Nat → Int32) (J : Nat → Nat → Int64) (a0 : Int32) : Option (Int32 × (Nat → Nat → Int32) × (Nat → Nat → Int64)) :=
  if (DX8_isHour a0) = 0 then
    (DX8_no I J ((-6 : Int32))).bind fun q1 =>
    some (q1.1, q1.2.1, q1.2.2)
  else
    (DX8_looksAt I a0).bind fun q2 =>
    some (q2, I, J)
set_option maxHeartbeats 4000000 in
set_option maxRecDepth 100000 in
theorem axX8_looks {I : Nat → Nat → Int32} {J : Nat → Nat → Int64} {a0 : Int32} {r : Int32} {I' : Nat → Nat → Int32} {J' : Nat → Nat → Int64} (h : DX8_looks I J a0 = some (r, I', J')) : am_F 5 nX8_looks [.ref 0, .int a0] (TM, I, J, RM) (some (.int r)) (TM, I', J', RM) := by
  unfold DX8_looks at h
  unfold am_F
  refine am_E.go (n := 1) rfl ?_
  refine am_E.callF rfl (by decide) (axX8_isHour rfl) ?_
  refine am_E.brk rfl (fun hp => ?_) (fun hp => ?_)
  · have h := (if_pos hp).symm.trans h
    refine am_E.go (n := 1) rfl ?_
    obtain ⟨q1, hq, h⟩ := am_bindI h
    obtain ⟨q1_1, q1_2, q1_3⟩ := q1
    refine am_E.callF rfl (by decide) (axX8_no hq) ?_
    cases h
    exact am_E.ret rfl ⟨rfl, rfl⟩
  · have h := (if_neg hp).symm.trans h
    refine am_E.go (n := 1) rfl ?_
    obtain ⟨q2, hq, h⟩ := am_bindI h
    refine am_E.callF rfl (by decide) (axX8_looksAt hq) ?_
    refine am_E.go (n := 0) rfl ?_
    cases h
    exact am_E.ret rfl ⟨rfl, rfl⟩
def DX8_areHours (a0 : Int32) (a1 : Int32) : Int32 :=
  if (DX8_isHour a0) = 0 then
    (0 : Int32)
  else
    if (DX8_isHour a1) = 0 then
      (0 : Int32)
    else
      if a1 < a0 then
        (0 : Int32)
      else
        (1 : Int32)
set_option maxHeartbeats 4000000 in
set_option maxRecDepth 100000 in
theorem axX8_areHours {I : Nat → Nat → Int32} {J : Nat → Nat → Int64} {a0 : Int32} {a1 : Int32} {r : Int32} (h : DX8_areHours a0 a1 = r) : am_F 1 nX8_areHours [.ref 0, .int a0, .int a1] (TM, I, J, RM) (some (.int r)) (TM, I, J, RM) := by
  unfold DX8_areHours at h
  unfold am_F
  refine am_E.go (n := 1) rfl ?_
  refine am_E.callF rfl (by decide) (axX8_isHour rfl) ?_
  refine am_E.brk rfl (fun hp => ?_) (fun hp => ?_)
  · have h := (if_pos hp).symm.trans h
    refine am_E.go (n := 0) rfl ?_
    subst h
    first | exact am_E.ret rfl ⟨rfl, rfl⟩ | exact am_E.retG rfl (by decide) ⟨rfl, rfl⟩
  · have h := (if_neg hp).symm.trans h
    refine am_E.go (n := 1) rfl ?_
    refine am_E.callF rfl (by decide) (axX8_isHour rfl) ?_
    refine am_E.brk rfl (fun hp => ?_) (fun hp => ?_)
    · have h := (if_pos hp).symm.trans h
      refine am_E.go (n := 0) rfl ?_
      subst h
      first | exact am_E.ret rfl ⟨rfl, rfl⟩ | exact am_E.retG rfl (by decide) ⟨rfl, rfl⟩
    · have h := (if_neg hp).symm.trans h
      refine am_E.go (n := 1) rfl ?_
      refine am_E.brk rfl (fun hp => ?_) (fun hp => ?_)
      · have h := (if_pos hp).symm.trans h
        refine am_E.go (n := 0) rfl ?_
        subst h
        first | exact am_E.ret rfl ⟨rfl, rfl⟩ | exact am_E.retG rfl (by decide) ⟨rfl, rfl⟩
      · have h := (if_neg hp).symm.trans h
        refine am_E.go (n := 1) rfl ?_
        subst h
        first | exact am_E.ret rfl ⟨rfl, rfl⟩ | exact am_E.retG rfl (by decide) ⟨rfl, rfl⟩
def LX8_worst : Nat → (Nat → Nat → Int32) → (Nat → Nat → Int64) → Int32 → Int32 → Int32 → Int32 → Option (Int32 × (Nat → Nat → Int32) × (Nat → Nat → Int64))
  | 0, _, _, _, _, _, _ => none
  | n + 1, I, J, x2, x3, x4, x5 =>
    if x2 < x5 then
      some (x3, I, J)
    else
      (DX8_looksAt I x5).bind fun q4 =>
      if q4 < x4 then
        LX8_worst n I J x2 x5 q4 ((x5 + (1 : Int32)))
      else
        LX8_worst n I J x2 x3 x4 ((x5 + (1 : Int32)))
def DX8_worst (I : Nat → Nat → Int32) (J : Nat → Nat → Int64) (a0 : Int32) (a1 : Int32) : Option (Int32 × (Nat → Nat → Int32) × (Nat → Nat → Int64)) :=
  if ¬ (DX8_areHours a0 a1) = 0 then
    (DX8_looksAt I a0).bind fun q1 =>
    LX8_worst am_FU I J a1 a0 q1 ((a0 + (1 : Int32)))
  else
    (DX8_no I J ((-6 : Int32))).bind fun q2 =>
    some (q2.1, q2.2.1, q2.2.2)
set_option maxHeartbeats 4000000 in
set_option maxRecDepth 100000 in
theorem alX8_worst : ∀ (n : Nat), ∀ {I : Nat → Nat → Int32} {J : Nat → Nat → Int64} {x2 : Int32} {x3 : Int32} {x4 : Int32} {x5 : Int32} {I' : Nat → Nat → Int32} {J' : Nat → Nat → Int64} {r : Int32}, LX8_worst n I J x2 x3 x4 x5 = some (r, I', J') → am_E 5 nX8_worst (30, [.ref 0, .retAddr 0, .int x2, .int x3, .int x4, .int x5, .retAddr 0], [], (TM, I, J, RM)) (fun v M' => v = some (.int r) ∧ M' = (TM, I', J', RM)) := by
  intro n
  induction n with
  | zero => intros; contradiction
  | succ n ih =>
    intro I J x2 x3 x4 x5 I' J' r h
    simp only [LX8_worst] at h
    refine am_E.go (n := 1) rfl ?_
    refine am_E.brk rfl (fun hp => ?_) (fun hp => ?_)
    · have h := (if_pos hp).symm.trans h
      refine am_E.go (n := 0) rfl ?_
      cases h
      exact am_E.ret rfl ⟨rfl, rfl⟩
    · have h := (if_neg hp).symm.trans h
      refine am_E.go (n := 1) rfl ?_
      obtain ⟨q4, hq, h⟩ := am_bindI h
      refine am_E.callF rfl (by decide) (axX8_looksAt hq) ?_
      refine am_E.go (n := 2) rfl ?_
      refine am_E.brk rfl (fun hp => ?_) (fun hp => ?_)
      · have h := (if_pos hp).symm.trans h
        refine am_E.go (n := 5) rfl ?_
        refine am_E.less (ls0 := [_, .retAddr 0, _, _, _, _, .retAddr 0]) ?_ ⟨Or.inl rfl, Or.inl rfl, Or.inl rfl, Or.inl rfl, Or.inl rfl, Or.inl rfl, Or.inr ⟨rfl, rfl⟩, trivial⟩
        exact ih h
      · have h := (if_neg hp).symm.trans h
        refine am_E.go (n := 2) rfl ?_
        refine am_E.less (ls0 := [_, .retAddr 0, _, _, _, _, .retAddr 0]) ?_ ⟨Or.inl rfl, Or.inl rfl, Or.inl rfl, Or.inl rfl, Or.inl rfl, Or.inl rfl, Or.inr ⟨rfl, rfl⟩, trivial⟩
        exact ih h
set_option maxHeartbeats 4000000 in
set_option maxRecDepth 100000 in
theorem axX8_worst {I : Nat → Nat → Int32} {J : Nat → Nat → Int64} {a0 : Int32} {a1 : Int32} {r : Int32} {I' : Nat → Nat → Int32} {J' : Nat → Nat → Int64} (h : DX8_worst I J a0 a1 = some (r, I', J')) : am_F 5 nX8_worst [.ref 0, .int a0, .int a1, .retAddr 0, .retAddr 0, .retAddr 0, .retAddr 0] (TM, I, J, RM) (some (.int r)) (TM, I', J', RM) := by
  unfold DX8_worst at h
  unfold am_F
  refine am_E.go (n := 2) rfl ?_
  refine am_E.callF rfl (by decide) (axX8_areHours rfl) ?_
  refine am_E.brk rfl (fun hp => ?_) (fun hp => ?_)
  · have h := (if_pos hp).symm.trans h
    refine am_E.go (n := 3) rfl ?_
    obtain ⟨q1, hq, h⟩ := am_bindI h
    refine am_E.callF rfl (by decide) (axX8_looksAt hq) ?_
    refine am_E.go (n := 4) rfl ?_
    refine am_E.less (ls0 := [_, .retAddr 0, _, _, _, _, .retAddr 0]) ?_ ⟨Or.inl rfl, Or.inr ⟨rfl, rfl⟩, Or.inl rfl, Or.inl rfl, Or.inl rfl, Or.inl rfl, Or.inl rfl, trivial⟩
    exact (alX8_worst am_FU) h
  · have h := (if_neg hp).symm.trans h
    refine am_E.go (n := 1) rfl ?_
    obtain ⟨q2, hq, h⟩ := am_bindI h
    obtain ⟨q2_1, q2_2, q2_3⟩ := q2
    refine am_E.callF rfl (by decide) (axX8_no hq) ?_
    cases h
    exact am_E.ret rfl ⟨rfl, rfl⟩
def LX8_allOf : Nat → (Nat → Nat → Int32) → Int32 → Int32 → Int32 → Option Int32
  | 0, _, _, _, _ => none
  | n + 1, I, x2, x3, x4 =>
    if x2 < x4 then
      some x3
    else
      (DX8_looksAt I x4).bind fun q2 =>
      LX8_allOf n I x2 ((x3 + q2)) ((x4 + (1 : Int32)))
def DX8_allOf (I : Nat → Nat → Int32) (a0 : Int32) (a1 : Int32) : Option Int32 :=
  LX8_allOf am_FU I a1 ((0 : Int32)) a0
set_option maxHeartbeats 4000000 in
set_option maxRecDepth 100000 in
theorem alX8_allOf : ∀ (n : Nat), ∀ {I : Nat → Nat → Int32} {J : Nat → Nat → Int64} {x2 : Int32} {x3 : Int32} {x4 : Int32} {r : Int32}, LX8_allOf n I x2 x3 x4 = some r → am_E 5 nX8_allOf (5, [.ref 0, .retAddr 0, .int x2, .int x3, .int x4], [], (TM, I, J, RM)) (fun v M' => v = some (.int r) ∧ M' = (TM, I, J, RM)) := by
  intro n
  induction n with
  | zero => intros; contradiction
  | succ n ih =>
    intro I J x2 x3 x4 r h
    simp only [LX8_allOf] at h
    refine am_E.go (n := 1) rfl ?_
    refine am_E.brk rfl (fun hp => ?_) (fun hp => ?_)
    · have h := (if_pos hp).symm.trans h
      refine am_E.go (n := 0) rfl ?_
      cases h
      exact am_E.ret rfl ⟨rfl, rfl⟩
    · have h := (if_neg hp).symm.trans h
      refine am_E.go (n := 2) rfl ?_
      obtain ⟨q2, hq, h⟩ := am_bindI h
      refine am_E.callF rfl (by decide) (axX8_looksAt hq) ?_
      refine am_E.go (n := 3) rfl ?_
      exact ih h
set_option maxHeartbeats 4000000 in
set_option maxRecDepth 100000 in
theorem axX8_allOf {I : Nat → Nat → Int32} {J : Nat → Nat → Int64} {a0 : Int32} {a1 : Int32} {r : Int32} (h : DX8_allOf I a0 a1 = some r) : am_F 5 nX8_allOf [.ref 0, .int a0, .int a1, .retAddr 0, .retAddr 0] (TM, I, J, RM) (some (.int r)) (TM, I, J, RM) := by
  unfold DX8_allOf at h
  unfold am_F
  refine am_E.go (n := 3) rfl ?_
  refine am_E.less (ls0 := [_, .retAddr 0, _, _, _]) ?_ ⟨Or.inl rfl, Or.inr ⟨rfl, rfl⟩, Or.inl rfl, Or.inl rfl, Or.inl rfl, trivial⟩
  exact (alX8_allOf am_FU) h
def DX8_all (I : Nat → Nat → Int32) (J : Nat → Nat → Int64) (a0 : Int32) (a1 : Int32) : Option (Int32 × (Nat → Nat → Int32) × (Nat → Nat → Int64)) :=
  if (DX8_areHours a0 a1) = 0 then
    (DX8_no I J ((-6 : Int32))).bind fun q1 =>
    some (q1.1, q1.2.1, q1.2.2)
  else
    (DX8_allOf I a0 a1).bind fun q2 =>
    some (q2, I, J)
set_option maxHeartbeats 4000000 in
set_option maxRecDepth 100000 in
theorem axX8_all {I : Nat → Nat → Int32} {J : Nat → Nat → Int64} {a0 : Int32} {a1 : Int32} {r : Int32} {I' : Nat → Nat → Int32} {J' : Nat → Nat → Int64} (h : DX8_all I J a0 a1 = some (r, I', J')) : am_F 6 nX8_all [.ref 0, .int a0, .int a1] (TM, I, J, RM) (some (.int r)) (TM, I', J', RM) := by
  unfold DX8_all at h
  unfold am_F
  refine am_E.go (n := 2) rfl ?_
  refine am_E.callF rfl (by decide) (axX8_areHours rfl) ?_
  refine am_E.brk rfl (fun hp => ?_) (fun hp => ?_)
  · have h := (if_pos hp).symm.trans h
    refine am_E.go (n := 1) rfl ?_
    obtain ⟨q1, hq, h⟩ := am_bindI h
    obtain ⟨q1_1, q1_2, q1_3⟩ := q1
    refine am_E.callF rfl (by decide) (axX8_no hq) ?_
    cases h
    exact am_E.ret rfl ⟨rfl, rfl⟩
  · have h := (if_neg hp).symm.trans h
    refine am_E.go (n := 2) rfl ?_
    obtain ⟨q2, hq, h⟩ := am_bindI h
    refine am_E.callF rfl (by decide) (axX8_allOf hq) ?_
    refine am_E.go (n := 0) rfl ?_
    cases h
    exact am_E.ret rfl ⟨rfl, rfl⟩
def LX8_best : Nat → Nat → (Nat → Nat → Int32) → (Nat → Nat → Int64) → Int32 → Int32 → Int32 → Int32 → Int32 → Int32 → Int32 → Int32 → Int32 → Int32 → Option (Int32 × (Nat → Nat → Int32) × (Nat → Nat → Int64))
  | 0, _, _, _, _, _, _, _, _, _, _, _, _, _ => none
  | n + 1, 0, I, J, x1, x2, x3, x4, x5, x6, x7, x8, x9, x10 =>
    if (I 0 0) ≤ x7 then
      some (x5, I, J)
    else
      if ¬ (x7 < 0 ∨ 8 ≤ (x7).toNatClampNeg) then
        if ¬ (x1 < 0 ∨ 24 ≤ (x1).toNatClampNeg) then
          if (I 3 (x7).toNatClampNeg) = (I 5 (x1).toNatClampNeg) then
            LX8_best n 1 I J x1 x2 x3 x4 x5 x6 x7 ((0 : Int32)) ((9 : Int32)) x2
          else
            LX8_best n 0 I J x1 x2 x3 x4 x5 x6 ((x7 + (1 : Int32))) 0 0 0
        else none
      else none
  | n + 1, _, I, J, x1, x2, x3, x4, x5, x6, x7, x8, x9, x10 =>
    if x3 < x10 then
      if ¬ x4 = 0 then
        if x6 < x9 then
          LX8_best n 0 I J x1 x2 x3 x4 x7 x9 ((x7 + (1 : Int32))) 0 0 0
        else
          LX8_best n 0 I J x1 x2 x3 x4 x5 x6 ((x7 + (1 : Int32))) 0 0 0
      else
        if x6 < x8 then
          LX8_best n 0 I J x1 x2 x3 x4 x7 x8 ((x7 + (1 : Int32))) 0 0 0
        else
          LX8_best n 0 I J x1 x2 x3 x4 x5 x6 ((x7 + (1 : Int32))) 0 0 0
    else
      (DX8_inSun I x1).bind fun q8 =>
      if q8 = 0 then
        (DX8_freshOf I x7 ((0 : Int32)) x10 ((0 : Int32))).bind fun q9 =>
        if x9 ≤ q9 then
          LX8_best n 1 I J x1 x2 x3 x4 x5 x6 x7 ((x8 + q9)) x9 ((x10 + (1 : Int32)))
        else
          LX8_best n 1 I J x1 x2 x3 x4 x5 x6 x7 ((x8 + q9)) q9 ((x10 + (1 : Int32)))
      else
        (DX8_freshOf I x7 x10 ((0 : Int32)) ((0 : Int32))).bind fun q10 =>
        if x9 ≤ q10 then
          LX8_best n 1 I J x1 x2 x3 x4 x5 x6 x7 ((x8 + q10)) x9 ((x10 + (1 : Int32)))
        else
          LX8_best n 1 I J x1 x2 x3 x4 x5 x6 x7 ((x8 + q10)) q10 ((x10 + (1 : Int32)))
def DX8_best (I : Nat → Nat → Int32) (J : Nat → Nat → Int64) (a0 : Int32) (a1 : Int32) (a2 : Int32) (a3 : Int32) : Option (Int32 × (Nat → Nat → Int32) × (Nat → Nat → Int64)) :=
  if ¬ (DX8_isCell a0) = 0 then
    if a3 < 0 then
      (DX8_noTen I J ((-5 : Int32))).bind fun q1 =>
      some (q1.1, q1.2.1, q1.2.2)
    else
      if a3 ≤ (1 : Int32) then
        if ¬ (DX8_areHours a1 a2) = 0 then
          LX8_best am_FU 0 I J a0 a1 a2 a3 ((-1 : Int32)) ((-1 : Int32)) ((0 : Int32)) 0 0 0
        else
          (DX8_noTen I J ((-6 : Int32))).bind fun q2 =>
          some (q2.1, q2.2.1, q2.2.2)
      else
        (DX8_noTen I J ((-5 : Int32))).bind fun q3 =>
        some (q3.1, q3.2.1, q3.2.2)
  else
    (DX8_noTen I J ((-1 : Int32))).bind fun q4 =>
    some (q4.1, q4.2.1, q4.2.2)
set_option maxHeartbeats 4000000 in
set_option maxRecDepth 100000 in
theorem alX8_best : ∀ (n : Nat), (∀ {I : Nat → Nat → Int32} {J : Nat → Nat → Int64} {x1 : Int32} {x2 : Int32} {x3 : Int32} {x4 : Int32} {x5 : Int32} {x6 : Int32} {x7 : Int32} {x8 : Int32} {x9 : Int32} {x10 : Int32} {I' : Nat → Nat → Int32} {J' : Nat → Nat → Int64} {r : Int32}, LX8_best n 0 I J x1 x2 x3 x4 x5 x6 x7 x8 x9 x10 = some (r, I', J') → am_E 2 nX8_best (57, [.ref 0, .int x1, .int x2, .int x3, .int x4, .int x5, .int x6, .int x7, .retAddr 0, .retAddr 0, .retAddr 0, .retAddr 0], [], (TM, I, J, RM)) (fun v M' => v = some (.int r) ∧ M' = (TM, I', J', RM))) ∧
    (∀ {I : Nat → Nat → Int32} {J : Nat → Nat → Int64} {x1 : Int32} {x2 : Int32} {x3 : Int32} {x4 : Int32} {x5 : Int32} {x6 : Int32} {x7 : Int32} {x8 : Int32} {x9 : Int32} {x10 : Int32} {I' : Nat → Nat → Int32} {J' : Nat → Nat → Int64} {r : Int32}, LX8_best n 1 I J x1 x2 x3 x4 x5 x6 x7 x8 x9 x10 = some (r, I', J') → am_E 2 nX8_best (95, [.ref 0, .int x1, .int x2, .int x3, .int x4, .int x5, .int x6, .int x7, .int x8, .int x9, .int x10, .retAddr 0], [], (TM, I, J, RM)) (fun v M' => v = some (.int r) ∧ M' = (TM, I', J', RM))) := by
  intro n
  induction n with
  | zero => exact ⟨by intros; contradiction, by intros; contradiction⟩
  | succ n ih =>
    refine ⟨?_, ?_⟩
    · intro I J x1 x2 x3 x4 x5 x6 x7 x8 x9 x10 I' J' r h
      simp only [LX8_best] at h
      refine am_E.go (n := 2) rfl ?_
      refine am_E.brk rfl (fun hp => ?_) (fun hp => ?_)
      · have h := (if_pos hp).symm.trans h
        refine am_E.go (n := 0) rfl ?_
        cases h
        exact am_E.ret rfl ⟨rfl, rfl⟩
      · have h := (if_neg hp).symm.trans h
        refine am_E.go (n := 2) rfl ?_
        obtain ⟨hg, h⟩ := am_ifI h
        refine am_E.grd rfl hg ?_
        refine am_E.go (n := 2) rfl ?_
        obtain ⟨hg, h⟩ := am_ifI h
        refine am_E.grd rfl hg ?_
        refine am_E.brk rfl (fun hp => ?_) (fun hp => ?_)
        · have h := (if_pos hp).symm.trans h
          refine am_E.go (n := 5) rfl ?_
          exact ih.2 h
        · have h := (if_neg hp).symm.trans h
          refine am_E.go (n := 2) rfl ?_
          exact ih.1 h
    · intro I J x1 x2 x3 x4 x5 x6 x7 x8 x9 x10 I' J' r h
      simp only [LX8_best] at h
      refine am_E.go (n := 1) rfl ?_
      refine am_E.brk rfl (fun hp => ?_) (fun hp => ?_)
      · have h := (if_pos hp).symm.trans h
        refine am_E.go (n := 0) rfl ?_
        refine am_E.brk rfl (fun hp => ?_) (fun hp => ?_)
        · have h := (if_pos hp).symm.trans h
          refine am_E.go (n := 3) rfl ?_
          refine am_E.brk rfl (fun hp => ?_) (fun hp => ?_)
          · have h := (if_pos hp).symm.trans h
            refine am_E.go (n := 5) rfl ?_
            refine am_E.less (ls0 := [_, _, _, _, _, _, _, _, .retAddr 0, .retAddr 0, .retAddr 0, .retAddr 0]) ?_ ⟨Or.inl rfl, Or.inl rfl, Or.inl rfl, Or.inl rfl, Or.inl rfl, Or.inl rfl, Or.inl rfl, Or.inl rfl, Or.inr ⟨rfl, rfl⟩, Or.inr ⟨rfl, rfl⟩, Or.inr ⟨rfl, rfl⟩, Or.inl rfl, trivial⟩
            exact ih.1 h
          · have h := (if_neg hp).symm.trans h
            refine am_E.go (n := 2) rfl ?_
            refine am_E.less (ls0 := [_, _, _, _, _, _, _, _, .retAddr 0, .retAddr 0, .retAddr 0, .retAddr 0]) ?_ ⟨Or.inl rfl, Or.inl rfl, Or.inl rfl, Or.inl rfl, Or.inl rfl, Or.inl rfl, Or.inl rfl, Or.inl rfl, Or.inr ⟨rfl, rfl⟩, Or.inr ⟨rfl, rfl⟩, Or.inr ⟨rfl, rfl⟩, Or.inl rfl, trivial⟩
            exact ih.1 h
        · have h := (if_neg hp).symm.trans h
          refine am_E.go (n := 4) rfl ?_
          refine am_E.brk rfl (fun hp => ?_) (fun hp => ?_)
          · have h := (if_pos hp).symm.trans h
            refine am_E.go (n := 5) rfl ?_
            refine am_E.less (ls0 := [_, _, _, _, _, _, _, _, .retAddr 0, .retAddr 0, .retAddr 0, .retAddr 0]) ?_ ⟨Or.inl rfl, Or.inl rfl, Or.inl rfl, Or.inl rfl, Or.inl rfl, Or.inl rfl, Or.inl rfl, Or.inl rfl, Or.inr ⟨rfl, rfl⟩, Or.inr ⟨rfl, rfl⟩, Or.inr ⟨rfl, rfl⟩, Or.inl rfl, trivial⟩
            exact ih.1 h
          · have h := (if_neg hp).symm.trans h
            refine am_E.go (n := 2) rfl ?_
            refine am_E.less (ls0 := [_, _, _, _, _, _, _, _, .retAddr 0, .retAddr 0, .retAddr 0, .retAddr 0]) ?_ ⟨Or.inl rfl, Or.inl rfl, Or.inl rfl, Or.inl rfl, Or.inl rfl, Or.inl rfl, Or.inl rfl, Or.inl rfl, Or.inr ⟨rfl, rfl⟩, Or.inr ⟨rfl, rfl⟩, Or.inr ⟨rfl, rfl⟩, Or.inl rfl, trivial⟩
            exact ih.1 h
      · have h := (if_neg hp).symm.trans h
        refine am_E.go (n := 1) rfl ?_
        obtain ⟨q8, hq, h⟩ := am_bindI h
        refine am_E.callF rfl (by decide) (axX8_inSun hq) ?_
        refine am_E.brk rfl (fun hp => ?_) (fun hp => ?_)
        · have h := (if_pos hp).symm.trans h
          refine am_E.go (n := 4) rfl ?_
          obtain ⟨q9, hq, h⟩ := am_bindI h
          refine am_E.callF rfl (by decide) (axX8_freshOf hq) ?_
          refine am_E.go (n := 6) rfl ?_
          refine am_E.brk rfl (fun hp => ?_) (fun hp => ?_)
          · have h := (if_pos hp).symm.trans h
            refine am_E.go (n := 3) rfl ?_
            refine am_E.less (ls0 := [_, _, _, _, _, _, _, _, _, _, _, .retAddr 0]) ?_ ⟨Or.inl rfl, Or.inl rfl, Or.inl rfl, Or.inl rfl, Or.inl rfl, Or.inl rfl, Or.inl rfl, Or.inl rfl, Or.inl rfl, Or.inl rfl, Or.inl rfl, Or.inr ⟨rfl, rfl⟩, trivial⟩
            exact ih.2 h
          · have h := (if_neg hp).symm.trans h
            refine am_E.go (n := 4) rfl ?_
            refine am_E.less (ls0 := [_, _, _, _, _, _, _, _, _, _, _, .retAddr 0]) ?_ ⟨Or.inl rfl, Or.inl rfl, Or.inl rfl, Or.inl rfl, Or.inl rfl, Or.inl rfl, Or.inl rfl, Or.inl rfl, Or.inl rfl, Or.inl rfl, Or.inl rfl, Or.inr ⟨rfl, rfl⟩, trivial⟩
            exact ih.2 h
        · have h := (if_neg hp).symm.trans h
          refine am_E.go (n := 4) rfl ?_
          obtain ⟨q10, hq, h⟩ := am_bindI h
          refine am_E.callF rfl (by decide) (axX8_freshOf hq) ?_
          refine am_E.go (n := 7) rfl ?_
          refine am_E.brk rfl (fun hp => ?_) (fun hp => ?_)
          · have h := (if_pos hp).symm.trans h
            refine am_E.go (n := 3) rfl ?_
            refine am_E.less (ls0 := [_, _, _, _, _, _, _, _, _, _, _, .retAddr 0]) ?_ ⟨Or.inl rfl, Or.inl rfl, Or.inl rfl, Or.inl rfl, Or.inl rfl, Or.inl rfl, Or.inl rfl, Or.inl rfl, Or.inl rfl, Or.inl rfl, Or.inl rfl, Or.inr ⟨rfl, rfl⟩, trivial⟩
            exact ih.2 h
          · have h := (if_neg hp).symm.trans h
            refine am_E.go (n := 4) rfl ?_
            refine am_E.less (ls0 := [_, _, _, _, _, _, _, _, _, _, _, .retAddr 0]) ?_ ⟨Or.inl rfl, Or.inl rfl, Or.inl rfl, Or.inl rfl, Or.inl rfl, Or.inl rfl, Or.inl rfl, Or.inl rfl, Or.inl rfl, Or.inl rfl, Or.inl rfl, Or.inr ⟨rfl, rfl⟩, trivial⟩
            exact ih.2 h
set_option maxHeartbeats 4000000 in
set_option maxRecDepth 100000 in
theorem axX8_best {I : Nat → Nat → Int32} {J : Nat → Nat → Int64} {a0 : Int32} {a1 : Int32} {a2 : Int32} {a3 : Int32} {r : Int32} {I' : Nat → Nat → Int32} {J' : Nat → Nat → Int64} (h : DX8_best I J a0 a1 a2 a3 = some (r, I', J')) : am_F 2 nX8_best [.ref 0, .int a0, .int a1, .int a2, .int a3, .retAddr 0, .retAddr 0, .retAddr 0, .retAddr 0, .retAddr 0, .retAddr 0, .retAddr 0] (TM, I, J, RM) (some (.int r)) (TM, I', J', RM) := by
  unfold DX8_best at h
  unfold am_F
  refine am_E.go (n := 1) rfl ?_
  refine am_E.callF rfl (by decide) (axX8_isCell rfl) ?_
  refine am_E.brk rfl (fun hp => ?_) (fun hp => ?_)
  · have h := (if_pos hp).symm.trans h
    refine am_E.go (n := 0) rfl ?_
    refine am_E.brk rfl (fun hp => ?_) (fun hp => ?_)
    · have h := (if_pos hp).symm.trans h
      refine am_E.go (n := 1) rfl ?_
      obtain ⟨q1, hq, h⟩ := am_bindI h
      obtain ⟨q1_1, q1_2, q1_3⟩ := q1
      refine am_E.callF rfl (by decide) (axX8_noTen hq) ?_
      cases h
      exact am_E.ret rfl ⟨rfl, rfl⟩
    · have h := (if_neg hp).symm.trans h
      refine am_E.go (n := 1) rfl ?_
      refine am_E.brk rfl (fun hp => ?_) (fun hp => ?_)
      · have h := (if_pos hp).symm.trans h
        refine am_E.go (n := 2) rfl ?_
        refine am_E.callF rfl (by decide) (axX8_areHours rfl) ?_
        refine am_E.brk rfl (fun hp => ?_) (fun hp => ?_)
        · have h := (if_pos hp).symm.trans h
          refine am_E.go (n := 5) rfl ?_
          exact (alX8_best am_FU).1 h
        · have h := (if_neg hp).symm.trans h
          refine am_E.go (n := 1) rfl ?_
          obtain ⟨q2, hq, h⟩ := am_bindI h
          obtain ⟨q2_1, q2_2, q2_3⟩ := q2
          refine am_E.callF rfl (by decide) (axX8_noTen hq) ?_
          cases h
          exact am_E.ret rfl ⟨rfl, rfl⟩
      · have h := (if_neg hp).symm.trans h
        refine am_E.go (n := 1) rfl ?_
        obtain ⟨q3, hq, h⟩ := am_bindI h
        obtain ⟨q3_1, q3_2, q3_3⟩ := q3
        refine am_E.callF rfl (by decide) (axX8_noTen hq) ?_
        cases h
        exact am_E.ret rfl ⟨rfl, rfl⟩
  · have h := (if_neg hp).symm.trans h
    refine am_E.go (n := 1) rfl ?_
    obtain ⟨q4, hq, h⟩ := am_bindI h
    obtain ⟨q4_1, q4_2, q4_3⟩ := q4
    refine am_E.callF rfl (by decide) (axX8_noTen hq) ?_
    cases h
    exact am_E.ret rfl ⟨rfl, rfl⟩
def LX8_turn : Nat → (Nat → Nat → Int32) → (Nat → Nat → Int64) → Int32 → Int32 → Int32 → Int32 → Int32 → Option (Int32 × (Nat → Nat → Int32) × (Nat → Nat → Int64))
  | 0, _, _, _, _, _, _, _ => none
  | n + 1, I, J, x1, x2, x3, x4, x5 =>
    if (3 : Int32) ≤ (I 0 1) then
      some (x4, (am_upI I 0 1 x3), J)
    else
      (DX8_allOf I x1 x2).bind fun q3 =>
      if x5 < q3 then
        LX8_turn n ((am_upI I 0 1 ((I 0 1) + (1 : Int32)))) J x1 x2 x3 ((I 0 1)) q3
      else
        LX8_turn n ((am_upI I 0 1 ((I 0 1) + (1 : Int32)))) J x1 x2 x3 x4 x5
def DX8_turn (I : Nat → Nat → Int32) (J : Nat → Nat → Int64) (a0 : Int32) (a1 : Int32) : Option (Int32 × (Nat → Nat → Int32) × (Nat → Nat → Int64)) :=
  if ¬ (DX8_areHours a0 a1) = 0 then
    LX8_turn am_FU ((am_upI I 0 1 (0 : Int32))) J a0 a1 ((I 0 1)) ((0 : Int32)) ((-1 : Int32))
  else
    (DX8_no I J ((-6 : Int32))).bind fun q1 =>
    some (q1.1, q1.2.1, q1.2.2)
set_option maxHeartbeats 4000000 in
set_option maxRecDepth 100000 in
theorem alX8_turn : ∀ (n : Nat), ∀ {I : Nat → Nat → Int32} {J : Nat → Nat → Int64} {x1 : Int32} {x2 : Int32} {x3 : Int32} {x4 : Int32} {x5 : Int32} {I' : Nat → Nat → Int32} {J' : Nat → Nat → Int64} {r : Int32}, LX8_turn n I J x1 x2 x3 x4 x5 = some (r, I', J') → am_E 6 nX8_turn (32, [.ref 0, .int x1, .int x2, .int x3, .int x4, .int x5, .retAddr 0], [], (TM, I, J, RM)) (fun v M' => v = some (.int r) ∧ M' = (TM, I', J', RM)) := by
  intro n
  induction n with
  | zero => intros; contradiction
  | succ n ih =>
    intro I J x1 x2 x3 x4 x5 I' J' r h
    simp only [LX8_turn] at h
    refine am_E.go (n := 2) rfl ?_
    refine am_E.brk rfl (fun hp => ?_) (fun hp => ?_)
    · have h := (if_pos hp).symm.trans h
      refine am_E.go (n := 3) rfl ?_
      cases h
      exact am_E.ret rfl ⟨rfl, rfl⟩
    · have h := (if_neg hp).symm.trans h
      refine am_E.go (n := 2) rfl ?_
      obtain ⟨q3, hq, h⟩ := am_bindI h
      refine am_E.callF rfl (by decide) (axX8_allOf hq) ?_
      refine am_E.go (n := 2) rfl ?_
      refine am_E.brk rfl (fun hp => ?_) (fun hp => ?_)
      · have h := (if_pos hp).symm.trans h
        refine am_E.go (n := 11) rfl ?_
        refine am_E.less (ls0 := [_, _, _, _, _, _, .retAddr 0]) ?_ ⟨Or.inl rfl, Or.inl rfl, Or.inl rfl, Or.inl rfl, Or.inl rfl, Or.inl rfl, Or.inr ⟨rfl, rfl⟩, trivial⟩
        exact ih h
      · have h := (if_neg hp).symm.trans h
        refine am_E.go (n := 7) rfl ?_
        refine am_E.less (ls0 := [_, _, _, _, _, _, .retAddr 0]) ?_ ⟨Or.inl rfl, Or.inl rfl, Or.inl rfl, Or.inl rfl, Or.inl rfl, Or.inl rfl, Or.inr ⟨rfl, rfl⟩, trivial⟩
        exact ih h
set_option maxHeartbeats 4000000 in
set_option maxRecDepth 100000 in
theorem axX8_turn {I : Nat → Nat → Int32} {J : Nat → Nat → Int64} {a0 : Int32} {a1 : Int32} {r : Int32} {I' : Nat → Nat → Int32} {J' : Nat → Nat → Int64} (h : DX8_turn I J a0 a1 = some (r, I', J')) : am_F 6 nX8_turn [.ref 0, .int a0, .int a1, .retAddr 0, .retAddr 0, .retAddr 0, .retAddr 0] (TM, I, J, RM) (some (.int r)) (TM, I', J', RM) := by
  unfold DX8_turn at h
  unfold am_F
  refine am_E.go (n := 2) rfl ?_
  refine am_E.callF rfl (by decide) (axX8_areHours rfl) ?_
  refine am_E.brk rfl (fun hp => ?_) (fun hp => ?_)
  · have h := (if_pos hp).symm.trans h
    refine am_E.go (n := 9) rfl ?_
    exact (alX8_turn am_FU) h
  · have h := (if_neg hp).symm.trans h
    refine am_E.go (n := 1) rfl ?_
    obtain ⟨q1, hq, h⟩ := am_bindI h
    obtain ⟨q1_1, q1_2, q1_3⟩ := q1
    refine am_E.callF rfl (by decide) (axX8_no hq) ?_
    cases h
    exact am_E.ret rfl ⟨rfl, rfl⟩
def DX8_isOpen (I : Nat → Nat → Int32) (a0 : Int32) : Option Int32 :=
  if ¬ (a0 < 0 ∨ 24 ≤ (a0).toNatClampNeg) then
    if ¬ (I 6 (a0).toNatClampNeg) = (-1 : Int32) then
      some ((0 : Int32))
    else
      if ¬ (a0 < 0 ∨ 24 ≤ (a0).toNatClampNeg) then
        if (I 7 (a0).toNatClampNeg) = (-1 : Int32) then
          some ((0 : Int32))
        else
          some ((1 : Int32))
      else none
  else none
set_option maxHeartbeats 4000000 in
set_option maxRecDepth 100000 in
theorem axX8_isOpen {I : Nat → Nat → Int32} {J : Nat → Nat → Int64} {a0 : Int32} {r : Int32} (h : DX8_isOpen I a0 = some r) : am_F 0 nX8_isOpen [.ref 0, .int a0] (TM, I, J, RM) (some (.int r)) (TM, I, J, RM) := by
  unfold DX8_isOpen at h
  unfold am_F
  refine am_E.go (n := 2) rfl ?_
  obtain ⟨hg, h⟩ := am_ifI h
  refine am_E.grd rfl hg ?_
  refine am_E.go (n := 0) rfl ?_
  refine am_E.brk rfl (fun hp => ?_) (fun hp => ?_)
  · have h := (if_pos hp).symm.trans h
    refine am_E.go (n := 0) rfl ?_
    cases h
    first | exact am_E.ret rfl ⟨rfl, rfl⟩ | exact am_E.retG rfl (by decide) ⟨rfl, rfl⟩
  · have h := (if_neg hp).symm.trans h
    refine am_E.go (n := 2) rfl ?_
    obtain ⟨hg, h⟩ := am_ifI h
    refine am_E.grd rfl hg ?_
    refine am_E.go (n := 0) rfl ?_
    refine am_E.brk rfl (fun hp => ?_) (fun hp => ?_)
    · have h := (if_pos hp).symm.trans h
      refine am_E.go (n := 0) rfl ?_
      cases h
      first | exact am_E.ret rfl ⟨rfl, rfl⟩ | exact am_E.retG rfl (by decide) ⟨rfl, rfl⟩
    · have h := (if_neg hp).symm.trans h
      refine am_E.go (n := 1) rfl ?_
      cases h
      first | exact am_E.ret rfl ⟨rfl, rfl⟩ | exact am_E.retG rfl (by decide) ⟨rfl, rfl⟩
def LX8_next : Nat → Nat → (Nat → Nat → Int32) → Int32 → Int32 → Option Int32
  | 0, _, _, _, _ => none
  | n + 1, 0, I, x1, x2 =>
    if x1 < 0 then
      some ((-1 : Int32))
    else
      LX8_next n 1 I x1 (((4 : Int32) * x1))
  | n + 1, _, I, x1, x2 =>
    if (((4 : Int32) * x1) + (4 : Int32)) ≤ x2 then
      LX8_next n 0 I ((x1 + (-1 : Int32))) 0
    else
      (DX8_isOpen I x2).bind fun q3 =>
      if q3 = 0 then
        LX8_next n 1 I x1 ((x2 + (1 : Int32)))
      else
        (DX8_mayLay I x2).bind fun q4 =>
        if q4 = 0 then
          LX8_next n 1 I x1 ((x2 + (1 : Int32)))
        else
          some x2
def DX8_next (I : Nat → Nat → Int32) : Option Int32 :=
  LX8_next am_FU 0 I ((5 : Int32)) 0
set_option maxHeartbeats 4000000 in
set_option maxRecDepth 100000 in
theorem alX8_next : ∀ (n : Nat), (∀ {I : Nat → Nat → Int32} {J : Nat → Nat → Int64} {x1 : Int32} {x2 : Int32} {r : Int32}, LX8_next n 0 I x1 x2 = some r → am_E 1 nX8_next (2, [.ref 0, .int x1, .retAddr 0], [], (TM, I, J, RM)) (fun v M' => v = some (.int r) ∧ M' = (TM, I, J, RM))) ∧
    (∀ {I : Nat → Nat → Int32} {J : Nat → Nat → Int64} {x1 : Int32} {x2 : Int32} {r : Int32}, LX8_next n 1 I x1 x2 = some r → am_E 1 nX8_next (10, [.ref 0, .int x1, .int x2], [], (TM, I, J, RM)) (fun v M' => v = some (.int r) ∧ M' = (TM, I, J, RM))) := by
  intro n
  induction n with
  | zero => exact ⟨by intros; contradiction, by intros; contradiction⟩
  | succ n ih =>
    refine ⟨?_, ?_⟩
    · intro I J x1 x2 r h
      simp only [LX8_next] at h
      refine am_E.go (n := 0) rfl ?_
      refine am_E.brk rfl (fun hp => ?_) (fun hp => ?_)
      · have h := (if_pos hp).symm.trans h
        refine am_E.go (n := 0) rfl ?_
        cases h
        exact am_E.ret rfl ⟨rfl, rfl⟩
      · have h := (if_neg hp).symm.trans h
        refine am_E.go (n := 3) rfl ?_
        exact ih.2 h
    · intro I J x1 x2 r h
      simp only [LX8_next] at h
      refine am_E.go (n := 5) rfl ?_
      refine am_E.brk rfl (fun hp => ?_) (fun hp => ?_)
      · have h := (if_pos hp).symm.trans h
        refine am_E.go (n := 1) rfl ?_
        refine am_E.less (ls0 := [_, _, .retAddr 0]) ?_ ⟨Or.inl rfl, Or.inl rfl, Or.inr ⟨rfl, rfl⟩, trivial⟩
        exact ih.1 h
      · have h := (if_neg hp).symm.trans h
        refine am_E.go (n := 1) rfl ?_
        obtain ⟨q3, hq, h⟩ := am_bindI h
        refine am_E.callF rfl (by decide) (axX8_isOpen hq) ?_
        refine am_E.brk rfl (fun hp => ?_) (fun hp => ?_)
        · have h := (if_pos hp).symm.trans h
          refine am_E.go (n := 1) rfl ?_
          exact ih.2 h
        · have h := (if_neg hp).symm.trans h
          refine am_E.go (n := 1) rfl ?_
          obtain ⟨q4, hq, h⟩ := am_bindI h
          refine am_E.callF rfl (by decide) (axX8_mayLay hq) ?_
          refine am_E.brk rfl (fun hp => ?_) (fun hp => ?_)
          · have h := (if_pos hp).symm.trans h
            refine am_E.go (n := 1) rfl ?_
            exact ih.2 h
          · have h := (if_neg hp).symm.trans h
            refine am_E.go (n := 0) rfl ?_
            cases h
            exact am_E.ret rfl ⟨rfl, rfl⟩
set_option maxHeartbeats 4000000 in
set_option maxRecDepth 100000 in
theorem axX8_next {I : Nat → Nat → Int32} {J : Nat → Nat → Int64} {r : Int32} (h : DX8_next I = some r) : am_F 1 nX8_next [.ref 0, .retAddr 0, .retAddr 0] (TM, I, J, RM) (some (.int r)) (TM, I, J, RM) := by
  unfold DX8_next at h
  unfold am_F
  refine am_E.go (n := 1) rfl ?_
  exact (alX8_next am_FU).1 h
def DX8_takesAt (I : Nat → Nat → Int32) (a0 : Int32) : Option Int32 :=
  if ¬ (a0 < 0 ∨ 24 ≤ (a0).toNatClampNeg) then
    if ¬ ((I 7 (a0).toNatClampNeg) < 0 ∨ 8 ≤ ((I 7 (a0).toNatClampNeg)).toNatClampNeg) then
      some (((10 : Int32) - (I 4 ((I 7 (a0).toNatClampNeg)).toNatClampNeg)))
    else none
  else none
set_option maxHeartbeats 4000000 in
set_option maxRecDepth 100000 in
theorem axX8_takesAt {I : Nat → Nat → Int32} {J : Nat → Nat → Int64} {a0 : Int32} {r : Int32} (h : DX8_takesAt I a0 = some r) : am_F 0 nX8_takesAt [.ref 0, .int a0] (TM, I, J, RM) (some (.int r)) (TM, I, J, RM) := by
  unfold DX8_takesAt at h
  unfold am_F
  refine am_E.go (n := 5) rfl ?_
  obtain ⟨hg, h⟩ := am_ifI h
  refine am_E.grd rfl hg ?_
  obtain ⟨hg, h⟩ := am_ifI h
  refine am_E.grd rfl hg ?_
  refine am_E.go (n := 0) rfl ?_
  cases h
  exact am_E.ret rfl ⟨rfl, rfl⟩
def LX8_seeks : Nat → (Nat → Nat → Int32) → (Nat → Nat → Int64) → Int32 → Int32 → Option (Int32 × (Nat → Nat → Int32) × (Nat → Nat → Int64))
  | 0, _, _, _, _ => none
  | n + 1, I, J, x1, x3 =>
    if x3 < 0 then
      if ¬ (x1 < 0 ∨ 4 ≤ (x1).toNatClampNeg) then
        if ¬ (x1 < 0 ∨ 4 ≤ (x1).toNatClampNeg) then
          if 0 ≤ x3 then
            (DX8_takesAt (am_upI ((am_upI I 21 (x1).toNatClampNeg x3)) 23 (x1).toNatClampNeg (0 : Int32)) ((((4 : Int32) * x3) + x1))).bind fun q8 =>
            if ¬ (x1 < 0 ∨ 4 ≤ (x1).toNatClampNeg) then
              (some (am_upI ((am_upI ((am_upI I 21 (x1).toNatClampNeg x3)) 23 (x1).toNatClampNeg (0 : Int32))) 22 (x1).toNatClampNeg q8)).bind fun I9 =>
              some ((0 : Int32), I9, J)
            else none
          else
            if ¬ (x1 < 0 ∨ 4 ≤ (x1).toNatClampNeg) then
              (some (am_upI ((am_upI ((am_upI I 21 (x1).toNatClampNeg x3)) 23 (x1).toNatClampNeg (0 : Int32))) 22 (x1).toNatClampNeg (0 : Int32))).bind fun I10 =>
              some ((0 : Int32), I10, J)
            else none
        else none
      else none
    else
      (DX8_isOpen I ((((4 : Int32) * x3) + x1))).bind fun q11 =>
      if ¬ q11 = 0 then
        if ¬ (x1 < 0 ∨ 4 ≤ (x1).toNatClampNeg) then
          if ¬ (x1 < 0 ∨ 4 ≤ (x1).toNatClampNeg) then
            if 0 ≤ x3 then
              (DX8_takesAt (am_upI ((am_upI I 21 (x1).toNatClampNeg x3)) 23 (x1).toNatClampNeg (0 : Int32)) ((((4 : Int32) * x3) + x1))).bind fun q12 =>
              if ¬ (x1 < 0 ∨ 4 ≤ (x1).toNatClampNeg) then
                (some (am_upI ((am_upI ((am_upI I 21 (x1).toNatClampNeg x3)) 23 (x1).toNatClampNeg (0 : Int32))) 22 (x1).toNatClampNeg q12)).bind fun I13 =>
                some ((0 : Int32), I13, J)
              else none
            else
              if ¬ (x1 < 0 ∨ 4 ≤ (x1).toNatClampNeg) then
                (some (am_upI ((am_upI ((am_upI I 21 (x1).toNatClampNeg x3)) 23 (x1).toNatClampNeg (0 : Int32))) 22 (x1).toNatClampNeg (0 : Int32))).bind fun I14 =>
                some ((0 : Int32), I14, J)
              else none
          else none
        else none
      else
        LX8_seeks n I J x1 ((x3 + (-1 : Int32)))
def DX8_seeks (I : Nat → Nat → Int32) (J : Nat → Nat → Int64) (a0 : Int32) (a1 : Int32) : Option (Int32 × (Nat → Nat → Int32) × (Nat → Nat → Int64)) :=
  LX8_seeks am_FU I J a0 a1
set_option maxHeartbeats 4000000 in
set_option maxRecDepth 100000 in
theorem alX8_seeks : ∀ (n : Nat), ∀ {I : Nat → Nat → Int32} {J : Nat → Nat → Int64} {x1 : Int32} {x3 : Int32} {I' : Nat → Nat → Int32} {J' : Nat → Nat → Int64} {r : Int32}, LX8_seeks n I J x1 x3 = some (r, I', J') → am_E 1 nX8_seeks (2, [.ref 0, .int x1, .retAddr 0, .int x3], [], (TM, I, J, RM)) (fun v M' => v = none ∧ M' = (TM, I', J', RM)) := by
  intro n
  induction n with
  | zero => intros; contradiction
  | succ n ih =>
    intro I J x1 x3 I' J' r h
    simp only [LX8_seeks] at h
    refine am_E.go (n := 0) rfl ?_
    refine am_E.brk rfl (fun hp => ?_) (fun hp => ?_)
    · have h := (if_pos hp).symm.trans h
      refine am_E.go (n := 3) rfl ?_
      obtain ⟨hg, h⟩ := am_ifI h
      refine am_E.grd rfl hg ?_
      refine am_E.go (n := 3) rfl ?_
      obtain ⟨hg, h⟩ := am_ifI h
      refine am_E.grd rfl hg ?_
      refine am_E.go (n := 3) rfl ?_
      refine am_E.brk rfl (fun hp => ?_) (fun hp => ?_)
      · have h := (if_pos hp).symm.trans h
        refine am_E.go (n := 5) rfl ?_
        obtain ⟨q8, hq, h⟩ := am_bindI h
        refine am_E.callF rfl (by decide) (axX8_takesAt hq) ?_
        obtain ⟨hg, h⟩ := am_ifI h
        refine am_E.grd rfl hg ?_
        obtain ⟨I9, hI, h⟩ := am_bindI h
        obtain rfl := Option.some.inj hI
        cases h
        exact am_E.ret rfl ⟨rfl, rfl⟩
      · have h := (if_neg hp).symm.trans h
        refine am_E.go (n := 1) rfl ?_
        obtain ⟨hg, h⟩ := am_ifI h
        refine am_E.grd rfl hg ?_
        obtain ⟨I10, hI, h⟩ := am_bindI h
        obtain rfl := Option.some.inj hI
        cases h
        exact am_E.ret rfl ⟨rfl, rfl⟩
    · have h := (if_neg hp).symm.trans h
      refine am_E.go (n := 5) rfl ?_
      obtain ⟨q11, hq, h⟩ := am_bindI h
      refine am_E.callF rfl (by decide) (axX8_isOpen hq) ?_
      refine am_E.brk rfl (fun hp => ?_) (fun hp => ?_)
      · have h := (if_pos hp).symm.trans h
        refine am_E.go (n := 3) rfl ?_
        obtain ⟨hg, h⟩ := am_ifI h
        refine am_E.grd rfl hg ?_
        refine am_E.go (n := 3) rfl ?_
        obtain ⟨hg, h⟩ := am_ifI h
        refine am_E.grd rfl hg ?_
        refine am_E.go (n := 3) rfl ?_
        refine am_E.brk rfl (fun hp => ?_) (fun hp => ?_)
        · have h := (if_pos hp).symm.trans h
          refine am_E.go (n := 5) rfl ?_
          obtain ⟨q12, hq, h⟩ := am_bindI h
          refine am_E.callF rfl (by decide) (axX8_takesAt hq) ?_
          obtain ⟨hg, h⟩ := am_ifI h
          refine am_E.grd rfl hg ?_
          obtain ⟨I13, hI, h⟩ := am_bindI h
          obtain rfl := Option.some.inj hI
          cases h
          exact am_E.ret rfl ⟨rfl, rfl⟩
        · have h := (if_neg hp).symm.trans h
          refine am_E.go (n := 1) rfl ?_
          obtain ⟨hg, h⟩ := am_ifI h
          refine am_E.grd rfl hg ?_
          obtain ⟨I14, hI, h⟩ := am_bindI h
          obtain rfl := Option.some.inj hI
          cases h
          exact am_E.ret rfl ⟨rfl, rfl⟩
      · have h := (if_neg hp).symm.trans h
        refine am_E.go (n := 1) rfl ?_
        exact ih h
set_option maxHeartbeats 4000000 in
set_option maxRecDepth 100000 in
theorem axX8_seeks {I : Nat → Nat → Int32} {J : Nat → Nat → Int64} {a0 : Int32} {a1 : Int32} {r : Int32} {I' : Nat → Nat → Int32} {J' : Nat → Nat → Int64} (h : DX8_seeks I J a0 a1 = some (r, I', J')) : am_F 1 nX8_seeks [.ref 0, .int a0, .int a1, .retAddr 0] (TM, I, J, RM) (none) (TM, I', J', RM) := by
  unfold DX8_seeks at h
  unfold am_F
  refine am_E.go (n := 1) rfl ?_
  refine am_E.less (ls0 := [_, _, .retAddr 0, _]) ?_ ⟨Or.inl rfl, Or.inl rfl, Or.inr ⟨rfl, rfl⟩, Or.inl rfl, trivial⟩
  exact (alX8_seeks am_FU) h
def LX8_leftOf : Nat → (Nat → Nat → Int32) → Int32 → Int32 → Int32 → Option Int32
  | 0, _, _, _, _ => none
  | n + 1, I, x1, x2, x3 =>
    if x3 < 0 then
      some x2
    else
      (DX8_isOpen I ((((4 : Int32) * x3) + x1))).bind fun q3 =>
      if q3 = 0 then
        LX8_leftOf n I x1 x2 ((x3 + (-1 : Int32)))
      else
        (DX8_takesAt I ((((4 : Int32) * x3) + x1))).bind fun q4 =>
        LX8_leftOf n I x1 ((x2 + q4)) ((x3 + (-1 : Int32)))
def DX8_leftOf (I : Nat → Nat → Int32) (a0 : Int32) : Option Int32 :=
  if ¬ (a0 < 0 ∨ 4 ≤ (a0).toNatClampNeg) then
    LX8_leftOf am_FU I a0 ((0 : Int32)) ((I 21 (a0).toNatClampNeg))
  else none
set_option maxHeartbeats 4000000 in
set_option maxRecDepth 100000 in
theorem alX8_leftOf : ∀ (n : Nat), ∀ {I : Nat → Nat → Int32} {J : Nat → Nat → Int64} {x1 : Int32} {x2 : Int32} {x3 : Int32} {r : Int32}, LX8_leftOf n I x1 x2 x3 = some r → am_E 1 nX8_leftOf (9, [.ref 0, .int x1, .int x2, .int x3], [], (TM, I, J, RM)) (fun v M' => v = some (.int r) ∧ M' = (TM, I, J, RM)) := by
  intro n
  induction n with
  | zero => intros; contradiction
  | succ n ih =>
    intro I J x1 x2 x3 r h
    simp only [LX8_leftOf] at h
    refine am_E.go (n := 0) rfl ?_
    refine am_E.brk rfl (fun hp => ?_) (fun hp => ?_)
    · have h := (if_pos hp).symm.trans h
      refine am_E.go (n := 0) rfl ?_
      cases h
      exact am_E.ret rfl ⟨rfl, rfl⟩
    · have h := (if_neg hp).symm.trans h
      refine am_E.go (n := 5) rfl ?_
      obtain ⟨q3, hq, h⟩ := am_bindI h
      refine am_E.callF rfl (by decide) (axX8_isOpen hq) ?_
      refine am_E.brk rfl (fun hp => ?_) (fun hp => ?_)
      · have h := (if_pos hp).symm.trans h
        refine am_E.go (n := 1) rfl ?_
        exact ih h
      · have h := (if_neg hp).symm.trans h
        refine am_E.go (n := 6) rfl ?_
        obtain ⟨q4, hq, h⟩ := am_bindI h
        refine am_E.callF rfl (by decide) (axX8_takesAt hq) ?_
        refine am_E.go (n := 3) rfl ?_
        exact ih h
set_option maxHeartbeats 4000000 in
set_option maxRecDepth 100000 in
theorem axX8_leftOf {I : Nat → Nat → Int32} {J : Nat → Nat → Int64} {a0 : Int32} {r : Int32} (h : DX8_leftOf I a0 = some r) : am_F 1 nX8_leftOf [.ref 0, .int a0, .retAddr 0, .retAddr 0] (TM, I, J, RM) (some (.int r)) (TM, I, J, RM) := by
  unfold DX8_leftOf at h
  unfold am_F
  refine am_E.go (n := 4) rfl ?_
  obtain ⟨hg, h⟩ := am_ifI h
  refine am_E.grd rfl hg ?_
  refine am_E.go (n := 0) rfl ?_
  exact (alX8_leftOf am_FU) h
def LX8_doneBy : Nat → Nat → (Nat → Nat → Int32) → (Nat → Nat → Int64) → Int32 → Int32 → Int32 → Int32 → Int32 → Int32 → Option (Int32 × (Nat → Nat → Int32) × (Nat → Nat → Int64))
  | 0, _, _, _, _, _, _, _, _, _ => none
  | n + 1, 0, I, J, x1, x2, x3, x4, x5, x6 =>
    if (4 : Int32) ≤ x2 then
      LX8_doneBy n 1 I J 0 x1 ((0 : Int32)) 0 0 0
    else
      (DX8_seeks I J x2 ((5 : Int32))).bind fun q5 =>
      LX8_doneBy n 0 q5.2.1 q5.2.2 x1 ((x2 + (1 : Int32))) 0 0 0 0
  | n + 1, 1, I, J, x1, x2, x3, x4, x5, x6 =>
    LX8_doneBy n 2 I J 0 x2 x3 ((0 : Int32)) ((0 : Int32)) 0
  | n + 1, 2, I, J, x1, x2, x3, x4, x5, x6 =>
    if (4 : Int32) ≤ x5 then
      if ¬ x4 = 0 then
        LX8_doneBy n 3 I J 0 x2 x3 0 0 0
      else
        some (x3, I, J)
    else
      if ¬ (x5 < 0 ∨ 4 ≤ (x5).toNatClampNeg) then
        if (I 21 (x5).toNatClampNeg) < 0 then
          if ¬ (x5 < 0 ∨ 4 ≤ (x5).toNatClampNeg) then
            if (I 21 (x5).toNatClampNeg) < 0 then
              LX8_doneBy n 2 I J 0 x2 x3 ((x4 ||| (0 : Int32))) ((x5 + (1 : Int32))) 0
            else
              LX8_doneBy n 2 I J 0 x2 x3 ((x4 ||| (1 : Int32))) ((x5 + (1 : Int32))) 0
          else none
        else
          if ¬ (x5 < 0 ∨ 4 ≤ (x5).toNatClampNeg) then
            if ¬ (I 23 (x5).toNatClampNeg) = (1 : Int32) then
              if ¬ (x5 < 0 ∨ 4 ≤ (x5).toNatClampNeg) then
                if (I 21 (x5).toNatClampNeg) < 0 then
                  LX8_doneBy n 2 I J 0 x2 x3 ((x4 ||| (0 : Int32))) ((x5 + (1 : Int32))) 0
                else
                  LX8_doneBy n 2 I J 0 x2 x3 ((x4 ||| (1 : Int32))) ((x5 + (1 : Int32))) 0
              else none
            else
              if ¬ (x5 < 0 ∨ 4 ≤ (x5).toNatClampNeg) then
                if ¬ (I 22 (x5).toNatClampNeg) = 0 then
                  if ¬ (x5 < 0 ∨ 4 ≤ (x5).toNatClampNeg) then
                    if (I 21 (x5).toNatClampNeg) < 0 then
                      LX8_doneBy n 2 I J 0 x2 x3 ((x4 ||| (0 : Int32))) ((x5 + (1 : Int32))) 0
                    else
                      LX8_doneBy n 2 I J 0 x2 x3 ((x4 ||| (1 : Int32))) ((x5 + (1 : Int32))) 0
                  else none
                else
                  if ¬ (x5 < 0 ∨ 4 ≤ (x5).toNatClampNeg) then
                    (DX8_seeks I J x5 (((I 21 (x5).toNatClampNeg) - (1 : Int32)))).bind fun q6 =>
                    if ¬ (x5 < 0 ∨ 4 ≤ (x5).toNatClampNeg) then
                      if (q6.2.1 21 (x5).toNatClampNeg) < 0 then
                        LX8_doneBy n 2 q6.2.1 q6.2.2 0 ((x2 + (1 : Int32))) x3 ((x4 ||| (0 : Int32))) ((x5 + (1 : Int32))) 0
                      else
                        LX8_doneBy n 2 q6.2.1 q6.2.2 0 ((x2 + (1 : Int32))) x3 ((x4 ||| (1 : Int32))) ((x5 + (1 : Int32))) 0
                    else none
                  else none
              else none
          else none
      else none
  | n + 1, 3, I, J, x1, x2, x3, x4, x5, x6 =>
    if x2 ≤ 0 then
      LX8_doneBy n 5 I J 0 x2 x3 0 ((0 : Int32)) 0
    else
      LX8_doneBy n 4 I J 0 x2 x3 0 ((-1 : Int32)) ((0 : Int32))
  | n + 1, 4, I, J, x1, x2, x3, x4, x5, x6 =>
    if (4 : Int32) ≤ x6 then
      if ¬ x5 = (-1 : Int32) then
        if ¬ (x5 < 0 ∨ 4 ≤ (x5).toNatClampNeg) then
          LX8_doneBy n 3 ((am_upI I 23 (x5).toNatClampNeg (1 : Int32))) J 0 ((x2 + (-1 : Int32))) x3 0 0 0
        else none
      else
        LX8_doneBy n 5 I J 0 x2 x3 0 ((0 : Int32)) 0
    else
      if ¬ (x6 < 0 ∨ 4 ≤ (x6).toNatClampNeg) then
        if (I 21 (x6).toNatClampNeg) < 0 then
          LX8_doneBy n 4 I J 0 x2 x3 0 x5 ((x6 + (1 : Int32)))
        else
          if ¬ (x6 < 0 ∨ 4 ≤ (x6).toNatClampNeg) then
            if ¬ (I 23 (x6).toNatClampNeg) = 0 then
              LX8_doneBy n 4 I J 0 x2 x3 0 x5 ((x6 + (1 : Int32)))
            else
              if x5 = (-1 : Int32) then
                LX8_doneBy n 4 I J 0 x2 x3 0 x6 ((x6 + (1 : Int32)))
              else
                (DX8_leftOf I x6).bind fun q7 =>
                (DX8_leftOf I x5).bind fun q8 =>
                if q7 ≤ q8 then
                  LX8_doneBy n 4 I J 0 x2 x3 0 x5 ((x6 + (1 : Int32)))
                else
                  LX8_doneBy n 4 I J 0 x2 x3 0 x6 ((x6 + (1 : Int32)))
          else none
      else none
  | n + 1, _, I, J, x1, x2, x3, x4, x5, x6 =>
    if (4 : Int32) ≤ x5 then
      LX8_doneBy n 1 I J 0 x2 ((x3 + (1 : Int32))) 0 0 0
    else
      if ¬ (x5 < 0 ∨ 4 ≤ (x5).toNatClampNeg) then
        if (I 21 (x5).toNatClampNeg) < 0 then
          LX8_doneBy n 5 I J 0 x2 x3 0 ((x5 + (1 : Int32))) 0
        else
          if ¬ (x5 < 0 ∨ 4 ≤ (x5).toNatClampNeg) then
            if ¬ (I 23 (x5).toNatClampNeg) = (1 : Int32) then
              LX8_doneBy n 5 I J 0 x2 x3 0 ((x5 + (1 : Int32))) 0
            else
              if ¬ (x5 < 0 ∨ 4 ≤ (x5).toNatClampNeg) then
                if ¬ (x5 < 0 ∨ 4 ≤ (x5).toNatClampNeg) then
                  LX8_doneBy n 5 ((am_upI I 22 (x5).toNatClampNeg ((I 22 (x5).toNatClampNeg) - (1 : Int32)))) J 0 x2 x3 0 ((x5 + (1 : Int32))) 0
                else none
              else none
          else none
      else none
def DX8_doneBy (I : Nat → Nat → Int32) (J : Nat → Nat → Int64) (a0 : Int32) : Option (Int32 × (Nat → Nat → Int32) × (Nat → Nat → Int64)) :=
  LX8_doneBy am_FU 0 I J a0 ((0 : Int32)) 0 0 0 0
set_option maxHeartbeats 4000000 in
set_option maxRecDepth 100000 in
theorem alX8_doneBy : ∀ (n : Nat), (∀ {I : Nat → Nat → Int32} {J : Nat → Nat → Int64} {x1 : Int32} {x2 : Int32} {x3 : Int32} {x4 : Int32} {x5 : Int32} {x6 : Int32} {I' : Nat → Nat → Int32} {J' : Nat → Nat → Int64} {r : Int32}, LX8_doneBy n 0 I J x1 x2 x3 x4 x5 x6 = some (r, I', J') → am_E 2 nX8_doneBy (2, [.ref 0, .int x1, .int x2, .retAddr 0, .retAddr 0, .retAddr 0, .retAddr 0], [], (TM, I, J, RM)) (fun v M' => v = some (.int r) ∧ M' = (TM, I', J', RM))) ∧
    (∀ {I : Nat → Nat → Int32} {J : Nat → Nat → Int64} {x1 : Int32} {x2 : Int32} {x3 : Int32} {x4 : Int32} {x5 : Int32} {x6 : Int32} {I' : Nat → Nat → Int32} {J' : Nat → Nat → Int64} {r : Int32}, LX8_doneBy n 1 I J x1 x2 x3 x4 x5 x6 = some (r, I', J') → am_E 2 nX8_doneBy (23, [.ref 0, .retAddr 0, .int x2, .int x3, .retAddr 0, .retAddr 0, .retAddr 0], [], (TM, I, J, RM)) (fun v M' => v = some (.int r) ∧ M' = (TM, I', J', RM))) ∧
    (∀ {I : Nat → Nat → Int32} {J : Nat → Nat → Int64} {x1 : Int32} {x2 : Int32} {x3 : Int32} {x4 : Int32} {x5 : Int32} {x6 : Int32} {I' : Nat → Nat → Int32} {J' : Nat → Nat → Int64} {r : Int32}, LX8_doneBy n 2 I J x1 x2 x3 x4 x5 x6 = some (r, I', J') → am_E 2 nX8_doneBy (29, [.ref 0, .retAddr 0, .int x2, .int x3, .int x4, .int x5, .retAddr 0], [], (TM, I, J, RM)) (fun v M' => v = some (.int r) ∧ M' = (TM, I', J', RM))) ∧
    (∀ {I : Nat → Nat → Int32} {J : Nat → Nat → Int64} {x1 : Int32} {x2 : Int32} {x3 : Int32} {x4 : Int32} {x5 : Int32} {x6 : Int32} {I' : Nat → Nat → Int32} {J' : Nat → Nat → Int64} {r : Int32}, LX8_doneBy n 3 I J x1 x2 x3 x4 x5 x6 = some (r, I', J') → am_E 2 nX8_doneBy (117, [.ref 0, .retAddr 0, .int x2, .int x3, .retAddr 0, .retAddr 0, .retAddr 0], [], (TM, I, J, RM)) (fun v M' => v = some (.int r) ∧ M' = (TM, I', J', RM))) ∧
    (∀ {I : Nat → Nat → Int32} {J : Nat → Nat → Int64} {x1 : Int32} {x2 : Int32} {x3 : Int32} {x4 : Int32} {x5 : Int32} {x6 : Int32} {I' : Nat → Nat → Int32} {J' : Nat → Nat → Int64} {r : Int32}, LX8_doneBy n 4 I J x1 x2 x3 x4 x5 x6 = some (r, I', J') → am_E 2 nX8_doneBy (127, [.ref 0, .retAddr 0, .int x2, .int x3, .retAddr 0, .int x5, .int x6], [], (TM, I, J, RM)) (fun v M' => v = some (.int r) ∧ M' = (TM, I', J', RM))) ∧
    (∀ {I : Nat → Nat → Int32} {J : Nat → Nat → Int64} {x1 : Int32} {x2 : Int32} {x3 : Int32} {x4 : Int32} {x5 : Int32} {x6 : Int32} {I' : Nat → Nat → Int32} {J' : Nat → Nat → Int64} {r : Int32}, LX8_doneBy n 5 I J x1 x2 x3 x4 x5 x6 = some (r, I', J') → am_E 2 nX8_doneBy (210, [.ref 0, .retAddr 0, .int x2, .int x3, .retAddr 0, .int x5, .retAddr 0], [], (TM, I, J, RM)) (fun v M' => v = some (.int r) ∧ M' = (TM, I', J', RM))) := by
  intro n
  induction n with
  | zero => exact ⟨by intros; contradiction, by intros; contradiction, by intros; contradiction, by intros; contradiction, by intros; contradiction, by intros; contradiction⟩
  | succ n ih =>
    refine ⟨?_, ?_, ?_, ?_, ?_, ?_⟩
    · intro I J x1 x2 x3 x4 x5 x6 I' J' r h
      simp only [LX8_doneBy] at h
      refine am_E.go (n := 1) rfl ?_
      refine am_E.brk rfl (fun hp => ?_) (fun hp => ?_)
      · have h := (if_pos hp).symm.trans h
        refine am_E.go (n := 3) rfl ?_
        refine am_E.less (ls0 := [_, .retAddr 0, _, _, .retAddr 0, .retAddr 0, .retAddr 0]) ?_ ⟨Or.inl rfl, Or.inr ⟨rfl, rfl⟩, Or.inl rfl, Or.inl rfl, Or.inl rfl, Or.inl rfl, Or.inl rfl, trivial⟩
        exact ih.2.1 h
      · have h := (if_neg hp).symm.trans h
        refine am_E.go (n := 2) rfl ?_
        obtain ⟨q5, hq, h⟩ := am_bindI h
        obtain ⟨q5_1, q5_2, q5_3⟩ := q5
        refine am_E.callF rfl (by decide) (axX8_seeks hq) ?_
        refine am_E.go (n := 1) rfl ?_
        exact ih.1 h
    · intro I J x1 x2 x3 x4 x5 x6 I' J' r h
      simp only [LX8_doneBy] at h
      refine am_E.go (n := 3) rfl ?_
      exact ih.2.2.1 h
    · intro I J x1 x2 x3 x4 x5 x6 I' J' r h
      simp only [LX8_doneBy] at h
      refine am_E.go (n := 1) rfl ?_
      refine am_E.brk rfl (fun hp => ?_) (fun hp => ?_)
      · have h := (if_pos hp).symm.trans h
        refine am_E.go (n := 0) rfl ?_
        refine am_E.brk rfl (fun hp => ?_) (fun hp => ?_)
        · have h := (if_pos hp).symm.trans h
          refine am_E.less (ls0 := [_, .retAddr 0, _, _, .retAddr 0, .retAddr 0, .retAddr 0]) ?_ ⟨Or.inl rfl, Or.inl rfl, Or.inl rfl, Or.inl rfl, Or.inr ⟨rfl, rfl⟩, Or.inr ⟨rfl, rfl⟩, Or.inl rfl, trivial⟩
          exact ih.2.2.2.1 h
        · have h := (if_neg hp).symm.trans h
          refine am_E.go (n := 0) rfl ?_
          cases h
          exact am_E.ret rfl ⟨rfl, rfl⟩
      · have h := (if_neg hp).symm.trans h
        refine am_E.go (n := 2) rfl ?_
        obtain ⟨hg, h⟩ := am_ifI h
        refine am_E.grd rfl hg ?_
        refine am_E.brk rfl (fun hp => ?_) (fun hp => ?_)
        · have h := (if_pos hp).symm.trans h
          refine am_E.go (n := 3) rfl ?_
          obtain ⟨hg, h⟩ := am_ifI h
          refine am_E.grd rfl hg ?_
          refine am_E.brk rfl (fun hp => ?_) (fun hp => ?_)
          · have h := (if_pos hp).symm.trans h
            refine am_E.go (n := 4) rfl ?_
            exact ih.2.2.1 h
          · have h := (if_neg hp).symm.trans h
            refine am_E.go (n := 5) rfl ?_
            exact ih.2.2.1 h
        · have h := (if_neg hp).symm.trans h
          refine am_E.go (n := 2) rfl ?_
          obtain ⟨hg, h⟩ := am_ifI h
          refine am_E.grd rfl hg ?_
          refine am_E.go (n := 0) rfl ?_
          refine am_E.brk rfl (fun hp => ?_) (fun hp => ?_)
          · have h := (if_pos hp).symm.trans h
            refine am_E.go (n := 3) rfl ?_
            obtain ⟨hg, h⟩ := am_ifI h
            refine am_E.grd rfl hg ?_
            refine am_E.brk rfl (fun hp => ?_) (fun hp => ?_)
            · have h := (if_pos hp).symm.trans h
              refine am_E.go (n := 4) rfl ?_
              exact ih.2.2.1 h
            · have h := (if_neg hp).symm.trans h
              refine am_E.go (n := 5) rfl ?_
              exact ih.2.2.1 h
          · have h := (if_neg hp).symm.trans h
            refine am_E.go (n := 2) rfl ?_
            obtain ⟨hg, h⟩ := am_ifI h
            refine am_E.grd rfl hg ?_
            refine am_E.brk rfl (fun hp => ?_) (fun hp => ?_)
            · have h := (if_pos hp).symm.trans h
              refine am_E.go (n := 3) rfl ?_
              obtain ⟨hg, h⟩ := am_ifI h
              refine am_E.grd rfl hg ?_
              refine am_E.brk rfl (fun hp => ?_) (fun hp => ?_)
              · have h := (if_pos hp).symm.trans h
                refine am_E.go (n := 4) rfl ?_
                exact ih.2.2.1 h
              · have h := (if_neg hp).symm.trans h
                refine am_E.go (n := 5) rfl ?_
                exact ih.2.2.1 h
            · have h := (if_neg hp).symm.trans h
              refine am_E.go (n := 5) rfl ?_
              obtain ⟨hg, h⟩ := am_ifI h
              refine am_E.grd rfl hg ?_
              refine am_E.go (n := 1) rfl ?_
              obtain ⟨q6, hq, h⟩ := am_bindI h
              obtain ⟨q6_1, q6_2, q6_3⟩ := q6
              refine am_E.callF rfl (by decide) (axX8_seeks hq) ?_
              refine am_E.go (n := 3) rfl ?_
              obtain ⟨hg, h⟩ := am_ifI h
              refine am_E.grd rfl hg ?_
              refine am_E.brk rfl (fun hp => ?_) (fun hp => ?_)
              · have h := (if_pos hp).symm.trans h
                refine am_E.go (n := 4) rfl ?_
                exact ih.2.2.1 h
              · have h := (if_neg hp).symm.trans h
                refine am_E.go (n := 5) rfl ?_
                exact ih.2.2.1 h
    · intro I J x1 x2 x3 x4 x5 x6 I' J' r h
      simp only [LX8_doneBy] at h
      refine am_E.go (n := 0) rfl ?_
      refine am_E.brk rfl (fun hp => ?_) (fun hp => ?_)
      · have h := (if_pos hp).symm.trans h
        refine am_E.go (n := 1) rfl ?_
        exact ih.2.2.2.2.2 h
      · have h := (if_neg hp).symm.trans h
        refine am_E.go (n := 3) rfl ?_
        exact ih.2.2.2.2.1 h
    · intro I J x1 x2 x3 x4 x5 x6 I' J' r h
      simp only [LX8_doneBy] at h
      refine am_E.go (n := 1) rfl ?_
      refine am_E.brk rfl (fun hp => ?_) (fun hp => ?_)
      · have h := (if_pos hp).symm.trans h
        refine am_E.go (n := 1) rfl ?_
        refine am_E.brk rfl (fun hp => ?_) (fun hp => ?_)
        · have h := (if_pos hp).symm.trans h
          refine am_E.go (n := 3) rfl ?_
          obtain ⟨hg, h⟩ := am_ifI h
          refine am_E.grd rfl hg ?_
          refine am_E.go (n := 1) rfl ?_
          refine am_E.less (ls0 := [_, .retAddr 0, _, _, .retAddr 0, .retAddr 0, .retAddr 0]) ?_ ⟨Or.inl rfl, Or.inl rfl, Or.inl rfl, Or.inl rfl, Or.inl rfl, Or.inr ⟨rfl, rfl⟩, Or.inr ⟨rfl, rfl⟩, trivial⟩
          exact ih.2.2.2.1 h
        · have h := (if_neg hp).symm.trans h
          refine am_E.go (n := 2) rfl ?_
          refine am_E.less (ls0 := [_, .retAddr 0, _, _, .retAddr 0, _, .retAddr 0]) ?_ ⟨Or.inl rfl, Or.inl rfl, Or.inl rfl, Or.inl rfl, Or.inl rfl, Or.inl rfl, Or.inr ⟨rfl, rfl⟩, trivial⟩
          exact ih.2.2.2.2.2 h
      · have h := (if_neg hp).symm.trans h
        refine am_E.go (n := 2) rfl ?_
        obtain ⟨hg, h⟩ := am_ifI h
        refine am_E.grd rfl hg ?_
        refine am_E.brk rfl (fun hp => ?_) (fun hp => ?_)
        · have h := (if_pos hp).symm.trans h
          refine am_E.go (n := 1) rfl ?_
          exact ih.2.2.2.2.1 h
        · have h := (if_neg hp).symm.trans h
          refine am_E.go (n := 2) rfl ?_
          obtain ⟨hg, h⟩ := am_ifI h
          refine am_E.grd rfl hg ?_
          refine am_E.brk rfl (fun hp => ?_) (fun hp => ?_)
          · have h := (if_pos hp).symm.trans h
            refine am_E.go (n := 1) rfl ?_
            exact ih.2.2.2.2.1 h
          · have h := (if_neg hp).symm.trans h
            refine am_E.go (n := 1) rfl ?_
            refine am_E.brk rfl (fun hp => ?_) (fun hp => ?_)
            · have h := (if_pos hp).symm.trans h
              refine am_E.go (n := 3) rfl ?_
              exact ih.2.2.2.2.1 h
            · have h := (if_neg hp).symm.trans h
              refine am_E.go (n := 1) rfl ?_
              obtain ⟨q7, hq, h⟩ := am_bindI h
              refine am_E.callF rfl (by decide) (axX8_leftOf hq) ?_
              refine am_E.go (n := 1) rfl ?_
              obtain ⟨q8, hq, h⟩ := am_bindI h
              refine am_E.callF rfl (by decide) (axX8_leftOf hq) ?_
              refine am_E.brk rfl (fun hp => ?_) (fun hp => ?_)
              · have h := (if_pos hp).symm.trans h
                refine am_E.go (n := 1) rfl ?_
                exact ih.2.2.2.2.1 h
              · have h := (if_neg hp).symm.trans h
                refine am_E.go (n := 3) rfl ?_
                exact ih.2.2.2.2.1 h
    · intro I J x1 x2 x3 x4 x5 x6 I' J' r h
      simp only [LX8_doneBy] at h
      refine am_E.go (n := 1) rfl ?_
      refine am_E.brk rfl (fun hp => ?_) (fun hp => ?_)
      · have h := (if_pos hp).symm.trans h
        refine am_E.go (n := 1) rfl ?_
        refine am_E.less (ls0 := [_, .retAddr 0, _, _, .retAddr 0, .retAddr 0, .retAddr 0]) ?_ ⟨Or.inl rfl, Or.inl rfl, Or.inl rfl, Or.inl rfl, Or.inl rfl, Or.inr ⟨rfl, rfl⟩, Or.inl rfl, trivial⟩
        exact ih.2.1 h
      · have h := (if_neg hp).symm.trans h
        refine am_E.go (n := 2) rfl ?_
        obtain ⟨hg, h⟩ := am_ifI h
        refine am_E.grd rfl hg ?_
        refine am_E.brk rfl (fun hp => ?_) (fun hp => ?_)
        · have h := (if_pos hp).symm.trans h
          refine am_E.go (n := 1) rfl ?_
          exact ih.2.2.2.2.2 h
        · have h := (if_neg hp).symm.trans h
          refine am_E.go (n := 2) rfl ?_
          obtain ⟨hg, h⟩ := am_ifI h
          refine am_E.grd rfl hg ?_
          refine am_E.go (n := 0) rfl ?_
          refine am_E.brk rfl (fun hp => ?_) (fun hp => ?_)
          · have h := (if_pos hp).symm.trans h
            refine am_E.go (n := 1) rfl ?_
            exact ih.2.2.2.2.2 h
          · have h := (if_neg hp).symm.trans h
            refine am_E.go (n := 3) rfl ?_
            obtain ⟨hg, h⟩ := am_ifI h
            refine am_E.grd rfl hg ?_
            refine am_E.go (n := 1) rfl ?_
            obtain ⟨hg, h⟩ := am_ifI h
            refine am_E.grd rfl hg ?_
            refine am_E.go (n := 1) rfl ?_
            exact ih.2.2.2.2.2 h
set_option maxHeartbeats 4000000 in
set_option maxRecDepth 100000 in
theorem axX8_doneBy {I : Nat → Nat → Int32} {J : Nat → Nat → Int64} {a0 : Int32} {r : Int32} {I' : Nat → Nat → Int32} {J' : Nat → Nat → Int64} (h : DX8_doneBy I J a0 = some (r, I', J')) : am_F 2 nX8_doneBy [.ref 0, .int a0, .retAddr 0, .retAddr 0, .retAddr 0, .retAddr 0, .retAddr 0] (TM, I, J, RM) (some (.int r)) (TM, I', J', RM) := by
  unfold DX8_doneBy at h
  unfold am_F
  refine am_E.go (n := 1) rfl ?_
  exact (alX8_doneBy am_FU).1 h
def DX8_done (I : Nat → Nat → Int32) (J : Nat → Nat → Int64) (a0 : Int32) : Option (Int32 × (Nat → Nat → Int32) × (Nat → Nat → Int64)) :=
  if a0 < (1 : Int32) then
    (DX8_no I J ((-6 : Int32))).bind fun q1 =>
    some (q1.1, q1.2.1, q1.2.2)
  else
    if (6 : Int32) < a0 then
      (DX8_no I J ((-6 : Int32))).bind fun q2 =>
      some (q2.1, q2.2.1, q2.2.2)
    else
      (DX8_doneBy I J a0).bind fun q3 =>
      some (q3.1, q3.2.1, q3.2.2)
set_option maxHeartbeats 4000000 in
set_option maxRecDepth 100000 in
theorem axX8_done {I : Nat → Nat → Int32} {J : Nat → Nat → Int64} {a0 : Int32} {r : Int32} {I' : Nat → Nat → Int32} {J' : Nat → Nat → Int64} (h : DX8_done I J a0 = some (r, I', J')) : am_F 3 nX8_done [.ref 0, .int a0] (TM, I, J, RM) (some (.int r)) (TM, I', J', RM) := by
  unfold DX8_done at h
  unfold am_F
  refine am_E.go (n := 1) rfl ?_
  refine am_E.brk rfl (fun hp => ?_) (fun hp => ?_)
  · have h := (if_pos hp).symm.trans h
    refine am_E.go (n := 1) rfl ?_
    obtain ⟨q1, hq, h⟩ := am_bindI h
    obtain ⟨q1_1, q1_2, q1_3⟩ := q1
    refine am_E.callF rfl (by decide) (axX8_no hq) ?_
    cases h
    exact am_E.ret rfl ⟨rfl, rfl⟩
  · have h := (if_neg hp).symm.trans h
    refine am_E.go (n := 1) rfl ?_
    refine am_E.brk rfl (fun hp => ?_) (fun hp => ?_)
    · have h := (if_pos hp).symm.trans h
      refine am_E.go (n := 1) rfl ?_
      obtain ⟨q2, hq, h⟩ := am_bindI h
      obtain ⟨q2_1, q2_2, q2_3⟩ := q2
      refine am_E.callF rfl (by decide) (axX8_no hq) ?_
      cases h
      exact am_E.ret rfl ⟨rfl, rfl⟩
    · have h := (if_neg hp).symm.trans h
      refine am_E.go (n := 1) rfl ?_
      obtain ⟨q3, hq, h⟩ := am_bindI h
      obtain ⟨q3_1, q3_2, q3_3⟩ := q3
      refine am_E.callF rfl (by decide) (axX8_doneBy hq) ?_
      refine am_E.go (n := 0) rfl ?_
      cases h
      exact am_E.ret rfl ⟨rfl, rfl⟩
