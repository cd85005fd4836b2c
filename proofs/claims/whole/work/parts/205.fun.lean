/-! THE METHODS AS FUNCTIONS over the memory, and the row that their runs do so: laid by program (wip/whole/decomp.py) -/
def DX7_stuff (I : Nat → Nat → Int32) (J : Nat → Nat → Int64) (a0 : Int32) (a1 : Int32) (a2 : Int32) : Option (Int32 × (Nat → Nat → Int32) × (Nat → Nat → Int64)) :=
  if a0 < 0 then
    (DX7_refuse I J ((-1 : Int32))).bind fun q1 =>
    some (q1.1, q1.2.1, q1.2.2)
  else
    if a0 < (7 : Int32) then
      if a1 < 0 then
        (DX7_refuse I J ((-6 : Int32))).bind fun q2 =>
        some (q2.1, q2.2.1, q2.2.2)
      else
        if (8 : Int32) ≤ a1 then
          (DX7_refuse I J ((-6 : Int32))).bind fun q3 =>
          some (q3.1, q3.2.1, q3.2.2)
        else
          if a2 < 0 then
            (DX7_refuse I J ((-6 : Int32))).bind fun q4 =>
            some (q4.1, q4.2.1, q4.2.2)
          else
            if a2 ≤ (9 : Int32) then
              if ¬ (DX1_hasRoom I 2) = 0 then
                (DX1_addStuff I J 2 a0 a1 a2).bind fun q5 =>
                some (q5.1, q5.2.1, q5.2.2)
              else
                (DX7_refuse I J ((-7 : Int32))).bind fun q6 =>
                some (q6.1, q6.2.1, q6.2.2)
            else
              (DX7_refuse I J ((-6 : Int32))).bind fun q7 =>
              some (q7.1, q7.2.1, q7.2.2)
    else
      (DX7_refuse I J ((-1 : Int32))).bind fun q8 =>
      some (q8.1, q8.2.1, q8.2.2)
set_option maxHeartbeats 4000000 in
set_option maxRecDepth 100000 in
theorem axX7_stuff {I : Nat → Nat → Int32} {J : Nat → Nat → Int64} {a0 : Int32} {a1 : Int32} {a2 : Int32} {r : Int32} {I' : Nat → Nat → Int32} {J' : Nat → Nat → Int64} (h : DX7_stuff I J a0 a1 a2 = some (r, I', J')) : am_F 2 nX7_stuff [.ref 0, .int a0, .int a1, .int a2] (TX, I, J, RX) (some (.int r)) (TX, I', J', RX) := by
  unfold DX7_stuff at h
  unfold am_F
  refine am_E.go (n := 0) rfl ?_
  refine am_E.brk rfl (fun hp => ?_) (fun hp => ?_)
  · have h := (if_pos hp).symm.trans h
    refine am_E.go (n := 1) rfl ?_
    obtain ⟨q1, hq, h⟩ := am_bindI h
    obtain ⟨q1_1, q1_2, q1_3⟩ := q1
    refine am_E.callF rfl (by decide) (axX7_refuse hq) ?_
    cases h
    exact am_E.ret rfl ⟨rfl, rfl⟩
  · have h := (if_neg hp).symm.trans h
    refine am_E.go (n := 1) rfl ?_
    refine am_E.brk rfl (fun hp => ?_) (fun hp => ?_)
    · have h := (if_pos hp).symm.trans h
      refine am_E.go (n := 0) rfl ?_
      refine am_E.brk rfl (fun hp => ?_) (fun hp => ?_)
      · have h := (if_pos hp).symm.trans h
        refine am_E.go (n := 1) rfl ?_
        obtain ⟨q2, hq, h⟩ := am_bindI h
        obtain ⟨q2_1, q2_2, q2_3⟩ := q2
        refine am_E.callF rfl (by decide) (axX7_refuse hq) ?_
        cases h
        exact am_E.ret rfl ⟨rfl, rfl⟩
      · have h := (if_neg hp).symm.trans h
        refine am_E.go (n := 1) rfl ?_
        refine am_E.brk rfl (fun hp => ?_) (fun hp => ?_)
        · have h := (if_pos hp).symm.trans h
          refine am_E.go (n := 1) rfl ?_
          obtain ⟨q3, hq, h⟩ := am_bindI h
          obtain ⟨q3_1, q3_2, q3_3⟩ := q3
          refine am_E.callF rfl (by decide) (axX7_refuse hq) ?_
          cases h
          exact am_E.ret rfl ⟨rfl, rfl⟩
        · have h := (if_neg hp).symm.trans h
          refine am_E.go (n := 0) rfl ?_
          refine am_E.brk rfl (fun hp => ?_) (fun hp => ?_)
          · have h := (if_pos hp).symm.trans h
            refine am_E.go (n := 1) rfl ?_
            obtain ⟨q4, hq, h⟩ := am_bindI h
            obtain ⟨q4_1, q4_2, q4_3⟩ := q4
            refine am_E.callF rfl (by decide) (axX7_refuse hq) ?_
            cases h
            exact am_E.ret rfl ⟨rfl, rfl⟩
          · have h := (if_neg hp).symm.trans h
            refine am_E.go (n := 1) rfl ?_
            refine am_E.brk rfl (fun hp => ?_) (fun hp => ?_)
            · have h := (if_pos hp).symm.trans h
              refine am_E.go (n := 1) rfl ?_
              refine am_E.callF rfl (by decide) (axX1_hasRoom (by decide) rfl) ?_
              refine am_E.brk rfl (fun hp => ?_) (fun hp => ?_)
              · have h := (if_pos hp).symm.trans h
                refine am_E.go (n := 4) rfl ?_
                obtain ⟨q5, hq, h⟩ := am_bindI h
                obtain ⟨q5_1, q5_2, q5_3⟩ := q5
                refine am_E.callF rfl (by decide) (axX1_addStuff (by decide) hq) ?_
                cases h
                exact am_E.ret rfl ⟨rfl, rfl⟩
              · have h := (if_neg hp).symm.trans h
                refine am_E.go (n := 1) rfl ?_
                obtain ⟨q6, hq, h⟩ := am_bindI h
                obtain ⟨q6_1, q6_2, q6_3⟩ := q6
                refine am_E.callF rfl (by decide) (axX7_refuse hq) ?_
                cases h
                exact am_E.ret rfl ⟨rfl, rfl⟩
            · have h := (if_neg hp).symm.trans h
              refine am_E.go (n := 1) rfl ?_
              obtain ⟨q7, hq, h⟩ := am_bindI h
              obtain ⟨q7_1, q7_2, q7_3⟩ := q7
              refine am_E.callF rfl (by decide) (axX7_refuse hq) ?_
              cases h
              exact am_E.ret rfl ⟨rfl, rfl⟩
    · have h := (if_neg hp).symm.trans h
      refine am_E.go (n := 1) rfl ?_
      obtain ⟨q8, hq, h⟩ := am_bindI h
      obtain ⟨q8_1, q8_2, q8_3⟩ := q8
      refine am_E.callF rfl (by decide) (axX7_refuse hq) ?_
      cases h
      exact am_E.ret rfl ⟨rfl, rfl⟩
def DX7_stuffOf (I : Nat → Nat → Int32) (J : Nat → Nat → Int64) (a0 : Int32) (a1 : Int32) : Option (Int32 × (Nat → Nat → Int32) × (Nat → Nat → Int64)) :=
  if ¬ (DX1_isStuff I 2 a0) = 0 then
    if a1 = 0 then
      ((DX1_kindOf I 2 a0).bind fun q1 =>
      some (q1, I, J))
    else if a1 = 1 then
      ((DX1_colourOf I 2 a0).bind fun q2 =>
      some (q2, I, J))
    else if a1 = 2 then
      ((DX1_aOf I 2 a0).bind fun q3 =>
      some (q3, I, J))
    else (DX7_refuse I J ((-5 : Int32))).bind fun q4 =>
    some (q4.1, q4.2.1, q4.2.2)
  else
    (DX7_refuse I J ((-5 : Int32))).bind fun q5 =>
    some (q5.1, q5.2.1, q5.2.2)
set_option maxHeartbeats 4000000 in
set_option maxRecDepth 100000 in
theorem axX7_stuffOf {I : Nat → Nat → Int32} {J : Nat → Nat → Int64} {a0 : Int32} {a1 : Int32} {r : Int32} {I' : Nat → Nat → Int32} {J' : Nat → Nat → Int64} (h : DX7_stuffOf I J a0 a1 = some (r, I', J')) : am_F 2 nX7_stuffOf [.ref 0, .int a0, .int a1] (TX, I, J, RX) (some (.int r)) (TX, I', J', RX) := by
  unfold DX7_stuffOf at h
  unfold am_F
  refine am_E.go (n := 2) rfl ?_
  refine am_E.callF rfl (by decide) (axX1_isStuff (by decide) rfl) ?_
  refine am_E.brk rfl (fun hp => ?_) (fun hp => ?_)
  · have h := (if_pos hp).symm.trans h
    refine am_E.go (n := 0) rfl ?_
    refine am_E.sw rfl ?_
    refine ⟨fun hp => ?_, fun hp => ?_⟩
    · have h := (if_pos hp).symm.trans h
      refine am_E.go (n := 2) rfl ?_
      obtain ⟨q1, hq, h⟩ := am_bindI h
      refine am_E.callF rfl (by decide) (axX1_kindOf (by decide) hq) ?_
      cases h
      exact am_E.ret rfl ⟨rfl, rfl⟩
    have h := (if_neg hp).symm.trans h
    refine ⟨fun hp => ?_, fun hp => ?_⟩
    · have h := (if_pos hp).symm.trans h
      refine am_E.go (n := 2) rfl ?_
      obtain ⟨q2, hq, h⟩ := am_bindI h
      refine am_E.callF rfl (by decide) (axX1_colourOf (by decide) hq) ?_
      cases h
      exact am_E.ret rfl ⟨rfl, rfl⟩
    have h := (if_neg hp).symm.trans h
    refine ⟨fun hp => ?_, fun hp => ?_⟩
    · have h := (if_pos hp).symm.trans h
      refine am_E.go (n := 2) rfl ?_
      obtain ⟨q3, hq, h⟩ := am_bindI h
      refine am_E.callF rfl (by decide) (axX1_aOf (by decide) hq) ?_
      cases h
      exact am_E.ret rfl ⟨rfl, rfl⟩
    have h := (if_neg hp).symm.trans h
    refine am_E.go (n := 1) rfl ?_
    obtain ⟨q4, hq, h⟩ := am_bindI h
    obtain ⟨q4_1, q4_2, q4_3⟩ := q4
    refine am_E.callF rfl (by decide) (axX7_refuse hq) ?_
    cases h
    exact am_E.ret rfl ⟨rfl, rfl⟩
  · have h := (if_neg hp).symm.trans h
    refine am_E.go (n := 1) rfl ?_
    obtain ⟨q5, hq, h⟩ := am_bindI h
    obtain ⟨q5_1, q5_2, q5_3⟩ := q5
    refine am_E.callF rfl (by decide) (axX7_refuse hq) ?_
    cases h
    exact am_E.ret rfl ⟨rfl, rfl⟩
def DX7_cell (I : Nat → Nat → Int32) (J : Nat → Nat → Int64) (a0 : Int32) (a1 : Int32) : Option (Int32 × (Nat → Nat → Int32) × (Nat → Nat → Int64)) :=
  if ¬ (DX7_isCell a0) = 0 then
    if a1 < (-1 : Int32) then
      (DX7_refuse I J ((-6 : Int32))).bind fun q1 =>
      some (q1.1, q1.2.1, q1.2.2)
    else
      if a1 < (8 : Int32) then
        (DX1_draw I J 2 a0 a1).bind fun q2 =>
        if ¬ a1 = (-1 : Int32) then
          some ((1 : Int32), q2.2.1, q2.2.2)
        else
          some ((0 : Int32), q2.2.1, q2.2.2)
      else
        (DX7_refuse I J ((-6 : Int32))).bind fun q3 =>
        some (q3.1, q3.2.1, q3.2.2)
  else
    (DX7_refuse I J ((-1 : Int32))).bind fun q4 =>
    some (q4.1, q4.2.1, q4.2.2)
set_option maxHeartbeats 4000000 in
set_option maxRecDepth 100000 in
theorem axX7_cell {I : Nat → Nat → Int32} {J : Nat → Nat → Int64} {a0 : Int32} {a1 : Int32} {r : Int32} {I' : Nat → Nat → Int32} {J' : Nat → Nat → Int64} (h : DX7_cell I J a0 a1 = some (r, I', J')) : am_F 2 nX7_cell [.ref 0, .int a0, .int a1] (TX, I, J, RX) (some (.int r)) (TX, I', J', RX) := by
  unfold DX7_cell at h
  unfold am_F
  refine am_E.go (n := 0) rfl ?_
  refine am_E.callF rfl (by decide) (axX7_isCell rfl) ?_
  refine am_E.brk rfl (fun hp => ?_) (fun hp => ?_)
  · have h := (if_pos hp).symm.trans h
    refine am_E.go (n := 1) rfl ?_
    refine am_E.brk rfl (fun hp => ?_) (fun hp => ?_)
    · have h := (if_pos hp).symm.trans h
      refine am_E.go (n := 1) rfl ?_
      obtain ⟨q1, hq, h⟩ := am_bindI h
      obtain ⟨q1_1, q1_2, q1_3⟩ := q1
      refine am_E.callF rfl (by decide) (axX7_refuse hq) ?_
      cases h
      exact am_E.ret rfl ⟨rfl, rfl⟩
    · have h := (if_neg hp).symm.trans h
      refine am_E.go (n := 1) rfl ?_
      refine am_E.brk rfl (fun hp => ?_) (fun hp => ?_)
      · have h := (if_pos hp).symm.trans h
        refine am_E.go (n := 3) rfl ?_
        obtain ⟨q2, hq, h⟩ := am_bindI h
        obtain ⟨q2_1, q2_2, q2_3⟩ := q2
        refine am_E.callF rfl (by decide) (axX1_draw (by decide) hq) ?_
        refine am_E.go (n := 1) rfl ?_
        refine am_E.brk rfl (fun hp => ?_) (fun hp => ?_)
        · have h := (if_pos hp).symm.trans h
          refine am_E.go (n := 0) rfl ?_
          cases h
          exact am_E.ret rfl ⟨rfl, rfl⟩
        · have h := (if_neg hp).symm.trans h
          refine am_E.go (n := 1) rfl ?_
          cases h
          exact am_E.ret rfl ⟨rfl, rfl⟩
      · have h := (if_neg hp).symm.trans h
        refine am_E.go (n := 1) rfl ?_
        obtain ⟨q3, hq, h⟩ := am_bindI h
        obtain ⟨q3_1, q3_2, q3_3⟩ := q3
        refine am_E.callF rfl (by decide) (axX7_refuse hq) ?_
        cases h
        exact am_E.ret rfl ⟨rfl, rfl⟩
  · have h := (if_neg hp).symm.trans h
    refine am_E.go (n := 1) rfl ?_
    obtain ⟨q4, hq, h⟩ := am_bindI h
    obtain ⟨q4_1, q4_2, q4_3⟩ := q4
    refine am_E.callF rfl (by decide) (axX7_refuse hq) ?_
    cases h
    exact am_E.ret rfl ⟨rfl, rfl⟩
def DX7_cellOf (I : Nat → Nat → Int32) (J : Nat → Nat → Int64) (a0 : Int32) (a1 : Int32) : Option (Int32 × (Nat → Nat → Int32) × (Nat → Nat → Int64)) :=
  if ¬ (DX7_isCell a0) = 0 then
    if a1 = 0 then
      ((DX1_drawnAt I 2 a0).bind fun q1 =>
      some (q1, I, J))
    else if a1 = 1 then
      ((DX1_laidAt I 2 a0).bind fun q2 =>
      some (q2, I, J))
    else if a1 = 2 then
      ((DX1_plannedAt I 2 a0).bind fun q3 =>
      some (q3, I, J))
    else if a1 = 3 then
      ((DX1_sunAt I 2 a0).bind fun q4 =>
      some (q4, I, J))
    else if a1 = 4 then
      ((DX1_shadeAt I 2 a0).bind fun q5 =>
      some (q5, I, J))
    else if a1 = 5 then
      ((DX1_spraysAt I 2 a0).bind fun q6 =>
      some (q6, I, J))
    else (DX7_refuse I J ((-15 : Int32))).bind fun q7 =>
    some (q7.1, q7.2.1, q7.2.2)
  else
    (DX7_refuse I J ((-15 : Int32))).bind fun q8 =>
    some (q8.1, q8.2.1, q8.2.2)
set_option maxHeartbeats 4000000 in
set_option maxRecDepth 100000 in
theorem axX7_cellOf {I : Nat → Nat → Int32} {J : Nat → Nat → Int64} {a0 : Int32} {a1 : Int32} {r : Int32} {I' : Nat → Nat → Int32} {J' : Nat → Nat → Int64} (h : DX7_cellOf I J a0 a1 = some (r, I', J')) : am_F 2 nX7_cellOf [.ref 0, .int a0, .int a1] (TX, I, J, RX) (some (.int r)) (TX, I', J', RX) := by
  unfold DX7_cellOf at h
  unfold am_F
  refine am_E.go (n := 0) rfl ?_
  refine am_E.callF rfl (by decide) (axX7_isCell rfl) ?_
  refine am_E.brk rfl (fun hp => ?_) (fun hp => ?_)
  · have h := (if_pos hp).symm.trans h
    refine am_E.go (n := 0) rfl ?_
    refine am_E.sw rfl ?_
    refine ⟨fun hp => ?_, fun hp => ?_⟩
    · have h := (if_pos hp).symm.trans h
      refine am_E.go (n := 2) rfl ?_
      obtain ⟨q1, hq, h⟩ := am_bindI h
      refine am_E.callF rfl (by decide) (axX1_drawnAt (by decide) hq) ?_
      cases h
      exact am_E.ret rfl ⟨rfl, rfl⟩
    have h := (if_neg hp).symm.trans h
    refine ⟨fun hp => ?_, fun hp => ?_⟩
    · have h := (if_pos hp).symm.trans h
      refine am_E.go (n := 2) rfl ?_
      obtain ⟨q2, hq, h⟩ := am_bindI h
      refine am_E.callF rfl (by decide) (axX1_laidAt (by decide) hq) ?_
      cases h
      exact am_E.ret rfl ⟨rfl, rfl⟩
    have h := (if_neg hp).symm.trans h
    refine ⟨fun hp => ?_, fun hp => ?_⟩
    · have h := (if_pos hp).symm.trans h
      refine am_E.go (n := 2) rfl ?_
      obtain ⟨q3, hq, h⟩ := am_bindI h
      refine am_E.callF rfl (by decide) (axX1_plannedAt (by decide) hq) ?_
      cases h
      exact am_E.ret rfl ⟨rfl, rfl⟩
    have h := (if_neg hp).symm.trans h
    refine ⟨fun hp => ?_, fun hp => ?_⟩
    · have h := (if_pos hp).symm.trans h
      refine am_E.go (n := 2) rfl ?_
      obtain ⟨q4, hq, h⟩ := am_bindI h
      refine am_E.callF rfl (by decide) (axX1_sunAt (by decide) hq) ?_
      cases h
      exact am_E.ret rfl ⟨rfl, rfl⟩
    have h := (if_neg hp).symm.trans h
    refine ⟨fun hp => ?_, fun hp => ?_⟩
    · have h := (if_pos hp).symm.trans h
      refine am_E.go (n := 2) rfl ?_
      obtain ⟨q5, hq, h⟩ := am_bindI h
      refine am_E.callF rfl (by decide) (axX1_shadeAt (by decide) hq) ?_
      cases h
      exact am_E.ret rfl ⟨rfl, rfl⟩
    have h := (if_neg hp).symm.trans h
    refine ⟨fun hp => ?_, fun hp => ?_⟩
    · have h := (if_pos hp).symm.trans h
      refine am_E.go (n := 2) rfl ?_
      obtain ⟨q6, hq, h⟩ := am_bindI h
      refine am_E.callF rfl (by decide) (axX1_spraysAt (by decide) hq) ?_
      cases h
      exact am_E.ret rfl ⟨rfl, rfl⟩
    have h := (if_neg hp).symm.trans h
    refine am_E.go (n := 1) rfl ?_
    obtain ⟨q7, hq, h⟩ := am_bindI h
    obtain ⟨q7_1, q7_2, q7_3⟩ := q7
    refine am_E.callF rfl (by decide) (axX7_refuse hq) ?_
    cases h
    exact am_E.ret rfl ⟨rfl, rfl⟩
  · have h := (if_neg hp).symm.trans h
    refine am_E.go (n := 1) rfl ?_
    obtain ⟨q8, hq, h⟩ := am_bindI h
    obtain ⟨q8_1, q8_2, q8_3⟩ := q8
    refine am_E.callF rfl (by decide) (axX7_refuse hq) ?_
    cases h
    exact am_E.ret rfl ⟨rfl, rfl⟩
def DX7_plan (I : Nat → Nat → Int32) (J : Nat → Nat → Int64) (a0 : Int32) (a1 : Int32) : Option (Int32 × (Nat → Nat → Int32) × (Nat → Nat → Int64)) :=
  if (DX7_isCell a0) = 0 then
    (DX7_refuse I J ((-1 : Int32))).bind fun q1 =>
    some (q1.1, q1.2.1, q1.2.2)
  else
    if a1 = (-1 : Int32) then
      (DX1_planFor I J 2 a0 a1).bind fun q2 =>
      if ¬ a1 = (-1 : Int32) then
        some ((1 : Int32), q2.2.1, q2.2.2)
      else
        some ((0 : Int32), q2.2.1, q2.2.2)
    else
      if ¬ (DX1_isStuff I 2 a1) = 0 then
        (DX1_planFor I J 2 a0 a1).bind fun q3 =>
        if ¬ a1 = (-1 : Int32) then
          some ((1 : Int32), q3.2.1, q3.2.2)
        else
          some ((0 : Int32), q3.2.1, q3.2.2)
      else
        (DX7_refuse I J ((-1 : Int32))).bind fun q4 =>
        some (q4.1, q4.2.1, q4.2.2)
set_option maxHeartbeats 4000000 in
set_option maxRecDepth 100000 in
theorem axX7_plan {I : Nat → Nat → Int32} {J : Nat → Nat → Int64} {a0 : Int32} {a1 : Int32} {r : Int32} {I' : Nat → Nat → Int32} {J' : Nat → Nat → Int64} (h : DX7_plan I J a0 a1 = some (r, I', J')) : am_F 2 nX7_plan [.ref 0, .int a0, .int a1] (TX, I, J, RX) (some (.int r)) (TX, I', J', RX) := by
  unfold DX7_plan at h
  unfold am_F
  refine am_E.go (n := 0) rfl ?_
  refine am_E.callF rfl (by decide) (axX7_isCell rfl) ?_
  refine am_E.brk rfl (fun hp => ?_) (fun hp => ?_)
  · have h := (if_pos hp).symm.trans h
    refine am_E.go (n := 1) rfl ?_
    obtain ⟨q1, hq, h⟩ := am_bindI h
    obtain ⟨q1_1, q1_2, q1_3⟩ := q1
    refine am_E.callF rfl (by decide) (axX7_refuse hq) ?_
    cases h
    exact am_E.ret rfl ⟨rfl, rfl⟩
  · have h := (if_neg hp).symm.trans h
    refine am_E.go (n := 1) rfl ?_
    refine am_E.brk rfl (fun hp => ?_) (fun hp => ?_)
    · have h := (if_pos hp).symm.trans h
      refine am_E.go (n := 3) rfl ?_
      obtain ⟨q2, hq, h⟩ := am_bindI h
      obtain ⟨q2_1, q2_2, q2_3⟩ := q2
      refine am_E.callF rfl (by decide) (axX1_planFor (by decide) hq) ?_
      refine am_E.go (n := 1) rfl ?_
      refine am_E.brk rfl (fun hp => ?_) (fun hp => ?_)
      · have h := (if_pos hp).symm.trans h
        refine am_E.go (n := 0) rfl ?_
        cases h
        exact am_E.ret rfl ⟨rfl, rfl⟩
      · have h := (if_neg hp).symm.trans h
        refine am_E.go (n := 1) rfl ?_
        cases h
        exact am_E.ret rfl ⟨rfl, rfl⟩
    · have h := (if_neg hp).symm.trans h
      refine am_E.go (n := 2) rfl ?_
      refine am_E.callF rfl (by decide) (axX1_isStuff (by decide) rfl) ?_
      refine am_E.brk rfl (fun hp => ?_) (fun hp => ?_)
      · have h := (if_pos hp).symm.trans h
        refine am_E.go (n := 3) rfl ?_
        obtain ⟨q3, hq, h⟩ := am_bindI h
        obtain ⟨q3_1, q3_2, q3_3⟩ := q3
        refine am_E.callF rfl (by decide) (axX1_planFor (by decide) hq) ?_
        refine am_E.go (n := 1) rfl ?_
        refine am_E.brk rfl (fun hp => ?_) (fun hp => ?_)
        · have h := (if_pos hp).symm.trans h
          refine am_E.go (n := 0) rfl ?_
          cases h
          exact am_E.ret rfl ⟨rfl, rfl⟩
        · have h := (if_neg hp).symm.trans h
          refine am_E.go (n := 1) rfl ?_
          cases h
          exact am_E.ret rfl ⟨rfl, rfl⟩
      · have h := (if_neg hp).symm.trans h
        refine am_E.go (n := 1) rfl ?_
        obtain ⟨q4, hq, h⟩ := am_bindI h
        obtain ⟨q4_1, q4_2, q4_3⟩ := q4
        refine am_E.callF rfl (by decide) (axX7_refuse hq) ?_
        cases h
        exact am_E.ret rfl ⟨rfl, rfl⟩
def DX7_village (I : Nat → Nat → Int32) (J : Nat → Nat → Int64) (a0 : Int32) : Option (Int32 × (Nat → Nat → Int32) × (Nat → Nat → Int64)) :=
  if (DX7_shelfAt a0) = 0 then
    (DX7_refuse I J ((-1 : Int32))).bind fun q1 =>
    some (q1.1, q1.2.1, q1.2.2)
  else
    if (DX3_rowTrouble I ((DX7_shelfAt a0))) = 0 then
      (DX1_becomeLike I J 12 2).bind fun q2 =>
      (DX5_tell q2.2.1 q2.2.2 ((DX7_shelfAt a0)) 12).bind fun q3 =>
      if (((am_upI q3.2.1 0 6 (DX5_faultFound q3.2.1))) 0 6) = (-1 : Int32) then
        (DX1_becomeLike (am_upI q3.2.1 0 6 (DX5_faultFound q3.2.1)) q3.2.2 2 12).bind fun q4 =>
        some (q3.1, q4.2.1, q4.2.2)
      else
        (DX7_refuse (am_upI q3.2.1 0 6 (DX5_faultFound q3.2.1)) q3.2.2 ((-6 : Int32))).bind fun q5 =>
        some (q5.1, q5.2.1, q5.2.2)
    else
      (DX7_refuse I J ((DX3_rowTrouble I ((DX7_shelfAt a0))))).bind fun q6 =>
      some (q6.1, q6.2.1, q6.2.2)
set_option maxHeartbeats 4000000 in
set_option maxRecDepth 100000 in
theorem axX7_village {I : Nat → Nat → Int32} {J : Nat → Nat → Int64} {a0 : Int32} {r : Int32} {I' : Nat → Nat → Int32} {J' : Nat → Nat → Int64} (h : DX7_village I J a0 = some (r, I', J')) : am_F 8 nX7_village [.ref 0, .int a0, .retAddr 0, .retAddr 0, .retAddr 0] (TX, I, J, RX) (some (.int r)) (TX, I', J', RX) := by
  unfold DX7_village at h
  unfold am_F
  refine am_E.go (n := 1) rfl ?_
  refine am_E.callF rfl (by decide) (axX7_shelfAt _ _ _) ?_
  by_cases hp : (DX7_shelfAt a0) = 0
  · have h := (if_pos hp).symm.trans h
    rw [am_rv0 hp]
    refine am_E.go (n := 1) rfl ?_
    refine am_E.step rfl ?_
    refine am_E.go (n := 1) rfl ?_
    obtain ⟨q1, hq, h⟩ := am_bindI h
    obtain ⟨q1_1, q1_2, q1_3⟩ := q1
    refine am_E.callF rfl (by decide) (axX7_refuse hq) ?_
    cases h
    exact am_E.ret rfl ⟨rfl, rfl⟩
  · have h := (if_neg hp).symm.trans h
    rw [am_rv1 hp]
    have hsh0 := axX7_shelfId hp
    refine am_E.go (n := 1) rfl ?_
    refine am_E.grd rfl (am_lt9 (am_shLt hsh0)) ?_
    refine am_E.go (n := 0) rfl ?_
    refine am_E.callGF rfl (am_shTag hsh0) (by decide) (axX3_rowTrouble hsh0 rfl) ?_
    refine am_E.go (n := 1) rfl ?_
    refine am_E.brk rfl (fun hp => ?_) (fun hp => ?_)
    · have h := (if_pos hp).symm.trans h
      refine am_E.go (n := 3) rfl ?_
      obtain ⟨q2, hq, h⟩ := am_bindI h
      obtain ⟨q2_1, q2_2, q2_3⟩ := q2
      refine am_E.callF rfl (by decide) (axX1_becomeLike (by decide) (by decide) hq) ?_
      refine am_E.go (n := 4) rfl ?_
      obtain ⟨q3, hq, h⟩ := am_bindI h
      obtain ⟨q3_1, q3_2, q3_3⟩ := q3
      refine am_E.callF rfl (by decide) (axX5_tell hsh0 (by decide) hq) ?_
      refine am_E.go (n := 3) rfl ?_
      refine am_E.callF rfl (by decide) (axX5_faultFound rfl) ?_
      refine am_E.go (n := 3) rfl ?_
      refine am_E.brk rfl (fun hp => ?_) (fun hp => ?_)
      · have h := (if_pos hp).symm.trans h
        refine am_E.go (n := 3) rfl ?_
        obtain ⟨q4, hq, h⟩ := am_bindI h
        obtain ⟨q4_1, q4_2, q4_3⟩ := q4
        refine am_E.callF rfl (by decide) (axX1_becomeLike (by decide) (by decide) hq) ?_
        refine am_E.go (n := 0) rfl ?_
        cases h
        exact am_E.ret rfl ⟨rfl, rfl⟩
      · have h := (if_neg hp).symm.trans h
        refine am_E.go (n := 1) rfl ?_
        obtain ⟨q5, hq, h⟩ := am_bindI h
        obtain ⟨q5_1, q5_2, q5_3⟩ := q5
        refine am_E.callF rfl (by decide) (axX7_refuse hq) ?_
        cases h
        exact am_E.ret rfl ⟨rfl, rfl⟩
    · have h := (if_neg hp).symm.trans h
      refine am_E.go (n := 1) rfl ?_
      obtain ⟨q6, hq, h⟩ := am_bindI h
      obtain ⟨q6_1, q6_2, q6_3⟩ := q6
      refine am_E.callF rfl (by decide) (axX7_refuse hq) ?_
      cases h
      exact am_E.ret rfl ⟨rfl, rfl⟩
def DX7_fault (I : Nat → Nat → Int32) : Int32 :=
  (I 0 6)
set_option maxHeartbeats 4000000 in
set_option maxRecDepth 100000 in
theorem axX7_fault {I : Nat → Nat → Int32} {J : Nat → Nat → Int64} {r : Int32} (h : DX7_fault I = r) : am_F 0 nX7_fault [.ref 0] (TX, I, J, RX) (some (.int r)) (TX, I, J, RX) := by
  unfold DX7_fault at h
  unfold am_F
  refine am_E.go (n := 1) rfl ?_
  subst h
  exact am_E.ret rfl ⟨rfl, rfl⟩
def DX7_may (I : Nat → Nat → Int32) (J : Nat → Nat → Int64) (a0 : Int32) : Option (Int32 × (Nat → Nat → Int32) × (Nat → Nat → Int64)) :=
  if ¬ (DX7_isCell a0) = 0 then
    (DX1_mayBeLaid I 2 a0).bind fun q1 =>
    if q1 = 0 then
      some ((0 : Int32), I, J)
    else
      some ((1 : Int32), I, J)
  else
    (DX7_refuse I J ((-1 : Int32))).bind fun q2 =>
    some (q2.1, q2.2.1, q2.2.2)
set_option maxHeartbeats 4000000 in
set_option maxRecDepth 100000 in
theorem axX7_may {I : Nat → Nat → Int32} {J : Nat → Nat → Int64} {a0 : Int32} {r : Int32} {I' : Nat → Nat → Int32} {J' : Nat → Nat → Int64} (h : DX7_may I J a0 = some (r, I', J')) : am_F 3 nX7_may [.ref 0, .int a0] (TX, I, J, RX) (some (.int r)) (TX, I', J', RX) := by
  unfold DX7_may at h
  unfold am_F
  refine am_E.go (n := 0) rfl ?_
  refine am_E.callF rfl (by decide) (axX7_isCell rfl) ?_
  refine am_E.brk rfl (fun hp => ?_) (fun hp => ?_)
  · have h := (if_pos hp).symm.trans h
    refine am_E.go (n := 2) rfl ?_
    obtain ⟨q1, hq, h⟩ := am_bindI h
    refine am_E.callF rfl (by decide) (axX1_mayBeLaid (by decide) hq) ?_
    refine am_E.brk rfl (fun hp => ?_) (fun hp => ?_)
    · have h := (if_pos hp).symm.trans h
      refine am_E.go (n := 0) rfl ?_
      cases h
      exact am_E.ret rfl ⟨rfl, rfl⟩
    · have h := (if_neg hp).symm.trans h
      refine am_E.go (n := 1) rfl ?_
      cases h
      exact am_E.ret rfl ⟨rfl, rfl⟩
  · have h := (if_neg hp).symm.trans h
    refine am_E.go (n := 1) rfl ?_
    obtain ⟨q2, hq, h⟩ := am_bindI h
    obtain ⟨q2_1, q2_2, q2_3⟩ := q2
    refine am_E.callF rfl (by decide) (axX7_refuse hq) ?_
    cases h
    exact am_E.ret rfl ⟨rfl, rfl⟩
def DX7_lay (I : Nat → Nat → Int32) (J : Nat → Nat → Int64) (a0 : Int32) (a1 : Int32) : Option (Int32 × (Nat → Nat → Int32) × (Nat → Nat → Int64)) :=
  if (DX7_isCell a0) = 0 then
    (DX7_refuse I J ((-1 : Int32))).bind fun q1 =>
    some (q1.1, q1.2.1, q1.2.2)
  else
    if ¬ (DX1_isStuff I 2 a1) = 0 then
      (DX1_mayBeLaid I 2 a0).bind fun q2 =>
      if ¬ q2 = 0 then
        (DX1_layOn I J 2 a0 a1).bind fun q3 =>
        (DX1_laidCount q3.2.1 2).bind fun q4 =>
        some (q4, q3.2.1, q3.2.2)
      else
        (DX7_refuse I J ((-6 : Int32))).bind fun q5 =>
        some (q5.1, q5.2.1, q5.2.2)
    else
      (DX7_refuse I J ((-1 : Int32))).bind fun q6 =>
      some (q6.1, q6.2.1, q6.2.2)
set_option maxHeartbeats 4000000 in
set_option maxRecDepth 100000 in
theorem axX7_lay {I : Nat → Nat → Int32} {J : Nat → Nat → Int64} {a0 : Int32} {a1 : Int32} {r : Int32} {I' : Nat → Nat → Int32} {J' : Nat → Nat → Int64} (h : DX7_lay I J a0 a1 = some (r, I', J')) : am_F 3 nX7_lay [.ref 0, .int a0, .int a1] (TX, I, J, RX) (some (.int r)) (TX, I', J', RX) := by
  unfold DX7_lay at h
  unfold am_F
  refine am_E.go (n := 0) rfl ?_
  refine am_E.callF rfl (by decide) (axX7_isCell rfl) ?_
  refine am_E.brk rfl (fun hp => ?_) (fun hp => ?_)
  · have h := (if_pos hp).symm.trans h
    refine am_E.go (n := 1) rfl ?_
    obtain ⟨q1, hq, h⟩ := am_bindI h
    obtain ⟨q1_1, q1_2, q1_3⟩ := q1
    refine am_E.callF rfl (by decide) (axX7_refuse hq) ?_
    cases h
    exact am_E.ret rfl ⟨rfl, rfl⟩
  · have h := (if_neg hp).symm.trans h
    refine am_E.go (n := 2) rfl ?_
    refine am_E.callF rfl (by decide) (axX1_isStuff (by decide) rfl) ?_
    refine am_E.brk rfl (fun hp => ?_) (fun hp => ?_)
    · have h := (if_pos hp).symm.trans h
      refine am_E.go (n := 2) rfl ?_
      obtain ⟨q2, hq, h⟩ := am_bindI h
      refine am_E.callF rfl (by decide) (axX1_mayBeLaid (by decide) hq) ?_
      refine am_E.brk rfl (fun hp => ?_) (fun hp => ?_)
      · have h := (if_pos hp).symm.trans h
        refine am_E.go (n := 3) rfl ?_
        obtain ⟨q3, hq, h⟩ := am_bindI h
        obtain ⟨q3_1, q3_2, q3_3⟩ := q3
        refine am_E.callF rfl (by decide) (axX1_layOn (by decide) hq) ?_
        refine am_E.go (n := 1) rfl ?_
        obtain ⟨q4, hq, h⟩ := am_bindI h
        refine am_E.callF rfl (by decide) (axX1_laidCount (by decide) hq) ?_
        cases h
        exact am_E.ret rfl ⟨rfl, rfl⟩
      · have h := (if_neg hp).symm.trans h
        refine am_E.go (n := 1) rfl ?_
        obtain ⟨q5, hq, h⟩ := am_bindI h
        obtain ⟨q5_1, q5_2, q5_3⟩ := q5
        refine am_E.callF rfl (by decide) (axX7_refuse hq) ?_
        cases h
        exact am_E.ret rfl ⟨rfl, rfl⟩
    · have h := (if_neg hp).symm.trans h
      refine am_E.go (n := 1) rfl ?_
      obtain ⟨q6, hq, h⟩ := am_bindI h
      obtain ⟨q6_1, q6_2, q6_3⟩ := q6
      refine am_E.callF rfl (by decide) (axX7_refuse hq) ?_
      cases h
      exact am_E.ret rfl ⟨rfl, rfl⟩
def DX7_strip (I : Nat → Nat → Int32) (J : Nat → Nat → Int64) (a0 : Int32) : Option (Int32 × (Nat → Nat → Int32) × (Nat → Nat → Int64)) :=
  if ¬ (DX7_isCell a0) = 0 then
    (DX1_laidAt I 2 a0).bind fun q1 =>
    if ¬ q1 = (-1 : Int32) then
      (DX1_makeBare I J 2 a0).bind fun q2 =>
      some (q1, q2.2.1, q2.2.2)
    else
      (DX7_refuse I J ((-6 : Int32))).bind fun q3 =>
      some (q3.1, q3.2.1, q3.2.2)
  else
    (DX7_refuse I J ((-1 : Int32))).bind fun q4 =>
    some (q4.1, q4.2.1, q4.2.2)
set_option maxHeartbeats 4000000 in
set_option maxRecDepth 100000 in
theorem axX7_strip {I : Nat → Nat → Int32} {J : Nat → Nat → Int64} {a0 : Int32} {r : Int32} {I' : Nat → Nat → Int32} {J' : Nat → Nat → Int64} (h : DX7_strip I J a0 = some (r, I', J')) : am_F 3 nX7_strip [.ref 0, .int a0, .retAddr 0] (TX, I, J, RX) (some (.int r)) (TX, I', J', RX) := by
  unfold DX7_strip at h
  unfold am_F
  refine am_E.go (n := 0) rfl ?_
  refine am_E.callF rfl (by decide) (axX7_isCell rfl) ?_
  refine am_E.brk rfl (fun hp => ?_) (fun hp => ?_)
  · have h := (if_pos hp).symm.trans h
    refine am_E.go (n := 2) rfl ?_
    obtain ⟨q1, hq, h⟩ := am_bindI h
    refine am_E.callF rfl (by decide) (axX1_laidAt (by decide) hq) ?_
    refine am_E.go (n := 2) rfl ?_
    refine am_E.brk rfl (fun hp => ?_) (fun hp => ?_)
    · have h := (if_pos hp).symm.trans h
      refine am_E.go (n := 2) rfl ?_
      obtain ⟨q2, hq, h⟩ := am_bindI h
      obtain ⟨q2_1, q2_2, q2_3⟩ := q2
      refine am_E.callF rfl (by decide) (axX1_makeBare (by decide) hq) ?_
      refine am_E.go (n := 0) rfl ?_
      cases h
      exact am_E.ret rfl ⟨rfl, rfl⟩
    · have h := (if_neg hp).symm.trans h
      refine am_E.go (n := 1) rfl ?_
      obtain ⟨q3, hq, h⟩ := am_bindI h
      obtain ⟨q3_1, q3_2, q3_3⟩ := q3
      refine am_E.callF rfl (by decide) (axX7_refuse hq) ?_
      cases h
      exact am_E.ret rfl ⟨rfl, rfl⟩
  · have h := (if_neg hp).symm.trans h
    refine am_E.go (n := 1) rfl ?_
    obtain ⟨q4, hq, h⟩ := am_bindI h
    obtain ⟨q4_1, q4_2, q4_3⟩ := q4
    refine am_E.callF rfl (by decide) (axX7_refuse hq) ?_
    cases h
    exact am_E.ret rfl ⟨rfl, rfl⟩
def DX7_spray (I : Nat → Nat → Int32) (J : Nat → Nat → Int64) : Option (Int32 × (Nat → Nat → Int32) × (Nat → Nat → Int64)) :=
  (DX1_sprayOnce I J 2).bind fun q1 =>
  some ((DX1_wetness q1.2.1 2), q1.2.1, q1.2.2)
set_option maxHeartbeats 4000000 in
set_option maxRecDepth 100000 in
theorem axX7_spray {I : Nat → Nat → Int32} {J : Nat → Nat → Int64} {r : Int32} {I' : Nat → Nat → Int32} {J' : Nat → Nat → Int64} (h : DX7_spray I J = some (r, I', J')) : am_F 2 nX7_spray [.ref 0] (TX, I, J, RX) (some (.int r)) (TX, I', J', RX) := by
  unfold DX7_spray at h
  unfold am_F
  refine am_E.go (n := 1) rfl ?_
  obtain ⟨q1, hq, h⟩ := am_bindI h
  obtain ⟨q1_1, q1_2, q1_3⟩ := q1
  refine am_E.callF rfl (by decide) (axX1_sprayOnce (by decide) hq) ?_
  refine am_E.go (n := 1) rfl ?_
  refine am_E.callF rfl (by decide) (axX1_wetness (by decide) rfl) ?_
  cases h
  exact am_E.ret rfl ⟨rfl, rfl⟩
def DX7_side (I : Nat → Nat → Int32) (J : Nat → Nat → Int64) (a0 : Int32) : Option (Int32 × (Nat → Nat → Int32) × (Nat → Nat → Int64)) :=
  if a0 < 0 then
    (DX7_refuse I J ((-6 : Int32))).bind fun q1 =>
    some (q1.1, q1.2.1, q1.2.2)
  else
    if a0 < (3 : Int32) then
      (DX1_turnTo I J 2 a0).bind fun q2 =>
      some ((DX1_sunnySide I 2), q2.2.1, q2.2.2)
    else
      (DX7_refuse I J ((-6 : Int32))).bind fun q3 =>
      some (q3.1, q3.2.1, q3.2.2)
set_option maxHeartbeats 4000000 in
set_option maxRecDepth 100000 in
theorem axX7_side {I : Nat → Nat → Int32} {J : Nat → Nat → Int64} {a0 : Int32} {r : Int32} {I' : Nat → Nat → Int32} {J' : Nat → Nat → Int64} (h : DX7_side I J a0 = some (r, I', J')) : am_F 1 nX7_side [.ref 0, .int a0, .retAddr 0] (TX, I, J, RX) (some (.int r)) (TX, I', J', RX) := by
  unfold DX7_side at h
  unfold am_F
  refine am_E.go (n := 0) rfl ?_
  refine am_E.brk rfl (fun hp => ?_) (fun hp => ?_)
  · have h := (if_pos hp).symm.trans h
    refine am_E.go (n := 1) rfl ?_
    obtain ⟨q1, hq, h⟩ := am_bindI h
    obtain ⟨q1_1, q1_2, q1_3⟩ := q1
    refine am_E.callF rfl (by decide) (axX7_refuse hq) ?_
    cases h
    exact am_E.ret rfl ⟨rfl, rfl⟩
  · have h := (if_neg hp).symm.trans h
    refine am_E.go (n := 1) rfl ?_
    refine am_E.brk rfl (fun hp => ?_) (fun hp => ?_)
    · have h := (if_pos hp).symm.trans h
      refine am_E.go (n := 1) rfl ?_
      refine am_E.callF rfl (by decide) (axX1_sunnySide (by decide) rfl) ?_
      refine am_E.go (n := 3) rfl ?_
      obtain ⟨q2, hq, h⟩ := am_bindI h
      obtain ⟨q2_1, q2_2, q2_3⟩ := q2
      refine am_E.callF rfl (by decide) (axX1_turnTo (by decide) hq) ?_
      refine am_E.go (n := 0) rfl ?_
      cases h
      exact am_E.ret rfl ⟨rfl, rfl⟩
    · have h := (if_neg hp).symm.trans h
      refine am_E.go (n := 1) rfl ?_
      obtain ⟨q3, hq, h⟩ := am_bindI h
      obtain ⟨q3_1, q3_2, q3_3⟩ := q3
      refine am_E.callF rfl (by decide) (axX7_refuse hq) ?_
      cases h
      exact am_E.ret rfl ⟨rfl, rfl⟩
def DX7_hours (I : Nat → Nat → Int32) (J : Nat → Nat → Int64) (a0 : Int32) : Option (Int32 × (Nat → Nat → Int32) × (Nat → Nat → Int64)) :=
  if a0 < (1 : Int32) then
    (DX7_refuse I J ((-6 : Int32))).bind fun q1 =>
    some (q1.1, q1.2.1, q1.2.2)
  else
    if a0 ≤ (240 : Int32) then
      (DX1_passHours I J 2 a0).bind fun q2 =>
      some ((DX1_hourNow q2.2.1 2), q2.2.1, q2.2.2)
    else
      (DX7_refuse I J ((-6 : Int32))).bind fun q3 =>
      some (q3.1, q3.2.1, q3.2.2)
set_option maxHeartbeats 4000000 in
set_option maxRecDepth 100000 in
theorem axX7_hours {I : Nat → Nat → Int32} {J : Nat → Nat → Int64} {a0 : Int32} {r : Int32} {I' : Nat → Nat → Int32} {J' : Nat → Nat → Int64} (h : DX7_hours I J a0 = some (r, I', J')) : am_F 3 nX7_hours [.ref 0, .int a0] (TX, I, J, RX) (some (.int r)) (TX, I', J', RX) := by
  unfold DX7_hours at h
  unfold am_F
  refine am_E.go (n := 1) rfl ?_
  refine am_E.brk rfl (fun hp => ?_) (fun hp => ?_)
  · have h := (if_pos hp).symm.trans h
    refine am_E.go (n := 1) rfl ?_
    obtain ⟨q1, hq, h⟩ := am_bindI h
    obtain ⟨q1_1, q1_2, q1_3⟩ := q1
    refine am_E.callF rfl (by decide) (axX7_refuse hq) ?_
    cases h
    exact am_E.ret rfl ⟨rfl, rfl⟩
  · have h := (if_neg hp).symm.trans h
    refine am_E.go (n := 1) rfl ?_
    refine am_E.brk rfl (fun hp => ?_) (fun hp => ?_)
    · have h := (if_pos hp).symm.trans h
      refine am_E.go (n := 2) rfl ?_
      obtain ⟨q2, hq, h⟩ := am_bindI h
      obtain ⟨q2_1, q2_2, q2_3⟩ := q2
      refine am_E.callF rfl (by decide) (axX1_passHours (by decide) hq) ?_
      refine am_E.go (n := 1) rfl ?_
      refine am_E.callF rfl (by decide) (axX1_hourNow (by decide) rfl) ?_
      cases h
      exact am_E.ret rfl ⟨rfl, rfl⟩
    · have h := (if_neg hp).symm.trans h
      refine am_E.go (n := 1) rfl ?_
      obtain ⟨q3, hq, h⟩ := am_bindI h
      obtain ⟨q3_1, q3_2, q3_3⟩ := q3
      refine am_E.callF rfl (by decide) (axX7_refuse hq) ?_
      cases h
      exact am_E.ret rfl ⟨rfl, rfl⟩
def DX7_isHour (a0 : Int32) : Int32 :=
  if a0 < 0 then
    (0 : Int32)
  else
    if (240 : Int32) < a0 then
      (0 : Int32)
    else
      (1 : Int32)
set_option maxHeartbeats 4000000 in
set_option maxRecDepth 100000 in
theorem axX7_isHour {I : Nat → Nat → Int32} {J : Nat → Nat → Int64} {a0 : Int32} {r : Int32} (h : DX7_isHour a0 = r) : am_F 0 nX7_isHour [.int a0] (TX, I, J, RX) (some (.int r)) (TX, I, J, RX) := by
  unfold DX7_isHour at h
  unfold am_F
  refine am_E.go (n := 0) rfl ?_
  refine am_E.brk rfl (fun hp => ?_) (fun hp => ?_)
  · have h := (if_pos hp).symm.trans h
    refine am_E.go (n := 0) rfl ?_
    subst h
    first | exact am_E.ret rfl ⟨rfl, rfl⟩ | exact am_E.retG rfl (by decide) ⟨rfl, rfl⟩
  · have h := (if_neg hp).symm.trans h
    refine am_E.go (n := 1) rfl ?_
    refine am_E.brk rfl (fun hp => ?_) (fun hp => ?_)
    · have h := (if_pos hp).symm.trans h
      refine am_E.go (n := 0) rfl ?_
      subst h
      first | exact am_E.ret rfl ⟨rfl, rfl⟩ | exact am_E.retG rfl (by decide) ⟨rfl, rfl⟩
    · have h := (if_neg hp).symm.trans h
      refine am_E.go (n := 1) rfl ?_
      subst h
      first | exact am_E.ret rfl ⟨rfl, rfl⟩ | exact am_E.retG rfl (by decide) ⟨rfl, rfl⟩
def DX7_fresh (I : Nat → Nat → Int32) (J : Nat → Nat → Int64) (a0 : Int32) (a1 : Int32) : Option (Int32 × (Nat → Nat → Int32) × (Nat → Nat → Int64)) :=
  if ¬ (DX7_isCell a0) = 0 then
    if ¬ (DX7_isHour a1) = 0 then
      (DX4_freshBehind I 2 a0 ((DX1_sunnySide I 2)) a1).bind fun q1 =>
      some (q1, I, J)
    else
      (DX7_refuse I J ((-6 : Int32))).bind fun q2 =>
      some (q2.1, q2.2.1, q2.2.2)
  else
    (DX7_refuse I J ((-1 : Int32))).bind fun q3 =>
    some (q3.1, q3.2.1, q3.2.2)
set_option maxHeartbeats 4000000 in
set_option maxRecDepth 100000 in
theorem axX7_fresh {I : Nat → Nat → Int32} {J : Nat → Nat → Int64} {a0 : Int32} {a1 : Int32} {r : Int32} {I' : Nat → Nat → Int32} {J' : Nat → Nat → Int64} (h : DX7_fresh I J a0 a1 = some (r, I', J')) : am_F 3 nX7_fresh [.ref 0, .int a0, .int a1] (TX, I, J, RX) (some (.int r)) (TX, I', J', RX) := by
  unfold DX7_fresh at h
  unfold am_F
  refine am_E.go (n := 0) rfl ?_
  refine am_E.callF rfl (by decide) (axX7_isCell rfl) ?_
  refine am_E.brk rfl (fun hp => ?_) (fun hp => ?_)
  · have h := (if_pos hp).symm.trans h
    refine am_E.go (n := 0) rfl ?_
    refine am_E.callF rfl (by decide) (axX7_isHour rfl) ?_
    refine am_E.brk rfl (fun hp => ?_) (fun hp => ?_)
    · have h := (if_pos hp).symm.trans h
      refine am_E.go (n := 4) rfl ?_
      refine am_E.callF rfl (by decide) (axX1_sunnySide (by decide) rfl) ?_
      refine am_E.go (n := 0) rfl ?_
      obtain ⟨q1, hq, h⟩ := am_bindI h
      refine am_E.callF rfl (by decide) (axX4_freshBehind (by decide) hq) ?_
      cases h
      exact am_E.ret rfl ⟨rfl, rfl⟩
    · have h := (if_neg hp).symm.trans h
      refine am_E.go (n := 1) rfl ?_
      obtain ⟨q2, hq, h⟩ := am_bindI h
      obtain ⟨q2_1, q2_2, q2_3⟩ := q2
      refine am_E.callF rfl (by decide) (axX7_refuse hq) ?_
      cases h
      exact am_E.ret rfl ⟨rfl, rfl⟩
  · have h := (if_neg hp).symm.trans h
    refine am_E.go (n := 1) rfl ?_
    obtain ⟨q3, hq, h⟩ := am_bindI h
    obtain ⟨q3_1, q3_2, q3_3⟩ := q3
    refine am_E.callF rfl (by decide) (axX7_refuse hq) ?_
    cases h
    exact am_E.ret rfl ⟨rfl, rfl⟩
def DX7_beauty (I : Nat → Nat → Int32) (J : Nat → Nat → Int64) (a0 : Int32) (a1 : Int32) : Option (Int32 × (Nat → Nat → Int32) × (Nat → Nat → Int64)) :=
  if ¬ (DX7_isCell a0) = 0 then
    if ¬ (DX7_isHour a1) = 0 then
      (DX4_beautyBehind I 2 a0 ((DX1_sunnySide I 2)) a1).bind fun q1 =>
      some (q1, I, J)
    else
      (DX7_refuse I J ((-6 : Int32))).bind fun q2 =>
      some (q2.1, q2.2.1, q2.2.2)
  else
    (DX7_refuse I J ((-1 : Int32))).bind fun q3 =>
    some (q3.1, q3.2.1, q3.2.2)
set_option maxHeartbeats 4000000 in
set_option maxRecDepth 100000 in
theorem axX7_beauty {I : Nat → Nat → Int32} {J : Nat → Nat → Int64} {a0 : Int32} {a1 : Int32} {r : Int32} {I' : Nat → Nat → Int32} {J' : Nat → Nat → Int64} (h : DX7_beauty I J a0 a1 = some (r, I', J')) : am_F 4 nX7_beauty [.ref 0, .int a0, .int a1] (TX, I, J, RX) (some (.int r)) (TX, I', J', RX) := by
  unfold DX7_beauty at h
  unfold am_F
  refine am_E.go (n := 0) rfl ?_
  refine am_E.callF rfl (by decide) (axX7_isCell rfl) ?_
  refine am_E.brk rfl (fun hp => ?_) (fun hp => ?_)
  · have h := (if_pos hp).symm.trans h
    refine am_E.go (n := 0) rfl ?_
    refine am_E.callF rfl (by decide) (axX7_isHour rfl) ?_
    refine am_E.brk rfl (fun hp => ?_) (fun hp => ?_)
    · have h := (if_pos hp).symm.trans h
      refine am_E.go (n := 4) rfl ?_
      refine am_E.callF rfl (by decide) (axX1_sunnySide (by decide) rfl) ?_
      refine am_E.go (n := 0) rfl ?_
      obtain ⟨q1, hq, h⟩ := am_bindI h
      refine am_E.callF rfl (by decide) (axX4_beautyBehind (by decide) hq) ?_
      cases h
      exact am_E.ret rfl ⟨rfl, rfl⟩
    · have h := (if_neg hp).symm.trans h
      refine am_E.go (n := 1) rfl ?_
      obtain ⟨q2, hq, h⟩ := am_bindI h
      obtain ⟨q2_1, q2_2, q2_3⟩ := q2
      refine am_E.callF rfl (by decide) (axX7_refuse hq) ?_
      cases h
      exact am_E.ret rfl ⟨rfl, rfl⟩
  · have h := (if_neg hp).symm.trans h
    refine am_E.go (n := 1) rfl ?_
    obtain ⟨q3, hq, h⟩ := am_bindI h
    obtain ⟨q3_1, q3_2, q3_3⟩ := q3
    refine am_E.callF rfl (by decide) (axX7_refuse hq) ?_
    cases h
    exact am_E.ret rfl ⟨rfl, rfl⟩
def DX7_looks (I : Nat → Nat → Int32) (J : Nat → Nat → Int64) (a0 : Int32) : Option (Int32 × (Nat → Nat → Int32) × (Nat → Nat → Int64)) :=
  if ¬ (DX7_isHour a0) = 0 then
    (DX4_looksBehind I 2 ((DX1_sunnySide I 2)) a0).bind fun q1 =>
    some (q1, I, J)
  else
    (DX7_refuse I J ((-6 : Int32))).bind fun q2 =>
    some (q2.1, q2.2.1, q2.2.2)
set_option maxHeartbeats 4000000 in
set_option maxRecDepth 100000 in
theorem axX7_looks {I : Nat → Nat → Int32} {J : Nat → Nat → Int64} {a0 : Int32} {r : Int32} {I' : Nat → Nat → Int32} {J' : Nat → Nat → Int64} (h : DX7_looks I J a0 = some (r, I', J')) : am_F 4 nX7_looks [.ref 0, .int a0] (TX, I, J, RX) (some (.int r)) (TX, I', J', RX) := by
  unfold DX7_looks at h
  unfold am_F
  refine am_E.go (n := 0) rfl ?_
  refine am_E.callF rfl (by decide) (axX7_isHour rfl) ?_
  refine am_E.brk rfl (fun hp => ?_) (fun hp => ?_)
  · have h := (if_pos hp).symm.trans h
    refine am_E.go (n := 3) rfl ?_
    refine am_E.callF rfl (by decide) (axX1_sunnySide (by decide) rfl) ?_
    refine am_E.go (n := 0) rfl ?_
    obtain ⟨q1, hq, h⟩ := am_bindI h
    refine am_E.callF rfl (by decide) (axX4_looksBehind (by decide) hq) ?_
    cases h
    exact am_E.ret rfl ⟨rfl, rfl⟩
  · have h := (if_neg hp).symm.trans h
    refine am_E.go (n := 1) rfl ?_
    obtain ⟨q2, hq, h⟩ := am_bindI h
    obtain ⟨q2_1, q2_2, q2_3⟩ := q2
    refine am_E.callF rfl (by decide) (axX7_refuse hq) ?_
    cases h
    exact am_E.ret rfl ⟨rfl, rfl⟩
def DX7_areHours (a0 : Int32) (a1 : Int32) : Int32 :=
  if a0 < 0 then
    (0 : Int32)
  else
    if a1 < a0 then
      (0 : Int32)
    else
      if (240 : Int32) < a1 then
        (0 : Int32)
      else
        (1 : Int32)
set_option maxHeartbeats 4000000 in
set_option maxRecDepth 100000 in
theorem axX7_areHours {I : Nat → Nat → Int32} {J : Nat → Nat → Int64} {a0 : Int32} {a1 : Int32} {r : Int32} (h : DX7_areHours a0 a1 = r) : am_F 0 nX7_areHours [.int a0, .int a1] (TX, I, J, RX) (some (.int r)) (TX, I, J, RX) := by
  unfold DX7_areHours at h
  unfold am_F
  refine am_E.go (n := 0) rfl ?_
  refine am_E.brk rfl (fun hp => ?_) (fun hp => ?_)
  · have h := (if_pos hp).symm.trans h
    refine am_E.go (n := 0) rfl ?_
    subst h
    first | exact am_E.ret rfl ⟨rfl, rfl⟩ | exact am_E.retG rfl (by decide) ⟨rfl, rfl⟩
  · have h := (if_neg hp).symm.trans h
    refine am_E.go (n := 1) rfl ?_
    refine am_E.brk rfl (fun hp => ?_) (fun hp => ?_)
    · have h := (if_pos hp).symm.trans h
      refine am_E.go (n := 0) rfl ?_
      subst h
      first | exact am_E.ret rfl ⟨rfl, rfl⟩ | exact am_E.retG rfl (by decide) ⟨rfl, rfl⟩
    · have h := (if_neg hp).symm.trans h
      refine am_E.go (n := 1) rfl ?_
      refine am_E.brk rfl (fun hp => ?_) (fun hp => ?_)
      · have h := (if_pos hp).symm.trans h
        refine am_E.go (n := 0) rfl ?_
        subst h
        first | exact am_E.ret rfl ⟨rfl, rfl⟩ | exact am_E.retG rfl (by decide) ⟨rfl, rfl⟩
      · have h := (if_neg hp).symm.trans h
        refine am_E.go (n := 1) rfl ?_
        subst h
        first | exact am_E.ret rfl ⟨rfl, rfl⟩ | exact am_E.retG rfl (by decide) ⟨rfl, rfl⟩
def DX7_worst (I : Nat → Nat → Int32) (J : Nat → Nat → Int64) (a0 : Int32) (a1 : Int32) : Option (Int32 × (Nat → Nat → Int32) × (Nat → Nat → Int64)) :=
  if ¬ (DX7_areHours a0 a1) = 0 then
    (DX4_worstHour I 2 a0 a1).bind fun q1 =>
    some (q1, I, J)
  else
    (DX7_refuse I J ((-6 : Int32))).bind fun q2 =>
    some (q2.1, q2.2.1, q2.2.2)
set_option maxHeartbeats 4000000 in
set_option maxRecDepth 100000 in
theorem axX7_worst {I : Nat → Nat → Int32} {J : Nat → Nat → Int64} {a0 : Int32} {a1 : Int32} {r : Int32} {I' : Nat → Nat → Int32} {J' : Nat → Nat → Int64} (h : DX7_worst I J a0 a1 = some (r, I', J')) : am_F 5 nX7_worst [.ref 0, .int a0, .int a1] (TX, I, J, RX) (some (.int r)) (TX, I', J', RX) := by
  unfold DX7_worst at h
  unfold am_F
  refine am_E.go (n := 1) rfl ?_
  refine am_E.callF rfl (by decide) (axX7_areHours rfl) ?_
  refine am_E.brk rfl (fun hp => ?_) (fun hp => ?_)
  · have h := (if_pos hp).symm.trans h
    refine am_E.go (n := 3) rfl ?_
    obtain ⟨q1, hq, h⟩ := am_bindI h
    refine am_E.callF rfl (by decide) (axX4_worstHour (by decide) hq) ?_
    cases h
    exact am_E.ret rfl ⟨rfl, rfl⟩
  · have h := (if_neg hp).symm.trans h
    refine am_E.go (n := 1) rfl ?_
    obtain ⟨q2, hq, h⟩ := am_bindI h
    obtain ⟨q2_1, q2_2, q2_3⟩ := q2
    refine am_E.callF rfl (by decide) (axX7_refuse hq) ?_
    cases h
    exact am_E.ret rfl ⟨rfl, rfl⟩
def DX7_all (I : Nat → Nat → Int32) (J : Nat → Nat → Int64) (a0 : Int32) (a1 : Int32) : Option (Int32 × (Nat → Nat → Int32) × (Nat → Nat → Int64)) :=
  if ¬ (DX7_areHours a0 a1) = 0 then
    (DX4_looksTogether I 2 ((DX1_sunnySide I 2)) a0 a1).bind fun q1 =>
    some (q1, I, J)
  else
    (DX7_refuse I J ((-6 : Int32))).bind fun q2 =>
    some (q2.1, q2.2.1, q2.2.2)
set_option maxHeartbeats 4000000 in
set_option maxRecDepth 100000 in
theorem axX7_all {I : Nat → Nat → Int32} {J : Nat → Nat → Int64} {a0 : Int32} {a1 : Int32} {r : Int32} {I' : Nat → Nat → Int32} {J' : Nat → Nat → Int64} (h : DX7_all I J a0 a1 = some (r, I', J')) : am_F 5 nX7_all [.ref 0, .int a0, .int a1] (TX, I, J, RX) (some (.int r)) (TX, I', J', RX) := by
  unfold DX7_all at h
  unfold am_F
  refine am_E.go (n := 1) rfl ?_
  refine am_E.callF rfl (by decide) (axX7_areHours rfl) ?_
  refine am_E.brk rfl (fun hp => ?_) (fun hp => ?_)
  · have h := (if_pos hp).symm.trans h
    refine am_E.go (n := 3) rfl ?_
    refine am_E.callF rfl (by decide) (axX1_sunnySide (by decide) rfl) ?_
    refine am_E.go (n := 1) rfl ?_
    obtain ⟨q1, hq, h⟩ := am_bindI h
    refine am_E.callF rfl (by decide) (axX4_looksTogether (by decide) hq) ?_
    cases h
    exact am_E.ret rfl ⟨rfl, rfl⟩
  · have h := (if_neg hp).symm.trans h
    refine am_E.go (n := 1) rfl ?_
    obtain ⟨q2, hq, h⟩ := am_bindI h
    obtain ⟨q2_1, q2_2, q2_3⟩ := q2
    refine am_E.callF rfl (by decide) (axX7_refuse hq) ?_
    cases h
    exact am_E.ret rfl ⟨rfl, rfl⟩
def DX7_best (I : Nat → Nat → Int32) (J : Nat → Nat → Int64) (a0 : Int32) (a1 : Int32) (a2 : Int32) (a3 : Int32) : Option (Int32 × (Nat → Nat → Int32) × (Nat → Nat → Int64)) :=
  if ¬ (DX7_isCell a0) = 0 then
    if a3 = 0 then
      if ¬ (DX7_areHours a1 a2) = 0 then
        (DX4_bestStuff I 2 a0 a1 a2 a3).bind fun q1 =>
        some (q1, I, J)
      else
        (DX7_refuse I J ((-16 : Int32))).bind fun q2 =>
        some (q2.1, q2.2.1, q2.2.2)
    else
      if a3 = (1 : Int32) then
        if ¬ (DX7_areHours a1 a2) = 0 then
          (DX4_bestStuff I 2 a0 a1 a2 a3).bind fun q3 =>
          some (q3, I, J)
        else
          (DX7_refuse I J ((-16 : Int32))).bind fun q4 =>
          some (q4.1, q4.2.1, q4.2.2)
      else
        (DX7_refuse I J ((-15 : Int32))).bind fun q5 =>
        some (q5.1, q5.2.1, q5.2.2)
  else
    (DX7_refuse I J ((-11 : Int32))).bind fun q6 =>
    some (q6.1, q6.2.1, q6.2.2)
set_option maxHeartbeats 4000000 in
set_option maxRecDepth 100000 in
theorem axX7_best {I : Nat → Nat → Int32} {J : Nat → Nat → Int64} {a0 : Int32} {a1 : Int32} {a2 : Int32} {a3 : Int32} {r : Int32} {I' : Nat → Nat → Int32} {J' : Nat → Nat → Int64} (h : DX7_best I J a0 a1 a2 a3 = some (r, I', J')) : am_F 4 nX7_best [.ref 0, .int a0, .int a1, .int a2, .int a3] (TX, I, J, RX) (some (.int r)) (TX, I', J', RX) := by
  unfold DX7_best at h
  unfold am_F
  refine am_E.go (n := 0) rfl ?_
  refine am_E.callF rfl (by decide) (axX7_isCell rfl) ?_
  refine am_E.brk rfl (fun hp => ?_) (fun hp => ?_)
  · have h := (if_pos hp).symm.trans h
    refine am_E.go (n := 0) rfl ?_
    refine am_E.brk rfl (fun hp => ?_) (fun hp => ?_)
    · have h := (if_pos hp).symm.trans h
      refine am_E.go (n := 1) rfl ?_
      refine am_E.callF rfl (by decide) (axX7_areHours rfl) ?_
      refine am_E.brk rfl (fun hp => ?_) (fun hp => ?_)
      · have h := (if_pos hp).symm.trans h
        refine am_E.go (n := 5) rfl ?_
        obtain ⟨q1, hq, h⟩ := am_bindI h
        refine am_E.callF rfl (by decide) (axX4_bestStuff (by decide) hq) ?_
        cases h
        exact am_E.ret rfl ⟨rfl, rfl⟩
      · have h := (if_neg hp).symm.trans h
        refine am_E.go (n := 1) rfl ?_
        obtain ⟨q2, hq, h⟩ := am_bindI h
        obtain ⟨q2_1, q2_2, q2_3⟩ := q2
        refine am_E.callF rfl (by decide) (axX7_refuse hq) ?_
        cases h
        exact am_E.ret rfl ⟨rfl, rfl⟩
    · have h := (if_neg hp).symm.trans h
      refine am_E.go (n := 1) rfl ?_
      refine am_E.brk rfl (fun hp => ?_) (fun hp => ?_)
      · have h := (if_pos hp).symm.trans h
        refine am_E.go (n := 1) rfl ?_
        refine am_E.callF rfl (by decide) (axX7_areHours rfl) ?_
        refine am_E.brk rfl (fun hp => ?_) (fun hp => ?_)
        · have h := (if_pos hp).symm.trans h
          refine am_E.go (n := 5) rfl ?_
          obtain ⟨q3, hq, h⟩ := am_bindI h
          refine am_E.callF rfl (by decide) (axX4_bestStuff (by decide) hq) ?_
          cases h
          exact am_E.ret rfl ⟨rfl, rfl⟩
        · have h := (if_neg hp).symm.trans h
          refine am_E.go (n := 1) rfl ?_
          obtain ⟨q4, hq, h⟩ := am_bindI h
          obtain ⟨q4_1, q4_2, q4_3⟩ := q4
          refine am_E.callF rfl (by decide) (axX7_refuse hq) ?_
          cases h
          exact am_E.ret rfl ⟨rfl, rfl⟩
      · have h := (if_neg hp).symm.trans h
        refine am_E.go (n := 1) rfl ?_
        obtain ⟨q5, hq, h⟩ := am_bindI h
        obtain ⟨q5_1, q5_2, q5_3⟩ := q5
        refine am_E.callF rfl (by decide) (axX7_refuse hq) ?_
        cases h
        exact am_E.ret rfl ⟨rfl, rfl⟩
  · have h := (if_neg hp).symm.trans h
    refine am_E.go (n := 1) rfl ?_
    obtain ⟨q6, hq, h⟩ := am_bindI h
    obtain ⟨q6_1, q6_2, q6_3⟩ := q6
    refine am_E.callF rfl (by decide) (axX7_refuse hq) ?_
    cases h
    exact am_E.ret rfl ⟨rfl, rfl⟩
def DX7_turn (I : Nat → Nat → Int32) (J : Nat → Nat → Int64) (a0 : Int32) (a1 : Int32) : Option (Int32 × (Nat → Nat → Int32) × (Nat → Nat → Int64)) :=
  if ¬ (DX7_areHours a0 a1) = 0 then
    (DX4_bestSide I 2 a0 a1).bind fun q1 =>
    some (q1, I, J)
  else
    (DX7_refuse I J ((-6 : Int32))).bind fun q2 =>
    some (q2.1, q2.2.1, q2.2.2)
set_option maxHeartbeats 4000000 in
set_option maxRecDepth 100000 in
theorem axX7_turn {I : Nat → Nat → Int32} {J : Nat → Nat → Int64} {a0 : Int32} {a1 : Int32} {r : Int32} {I' : Nat → Nat → Int32} {J' : Nat → Nat → Int64} (h : DX7_turn I J a0 a1 = some (r, I', J')) : am_F 6 nX7_turn [.ref 0, .int a0, .int a1] (TX, I, J, RX) (some (.int r)) (TX, I', J', RX) := by
  unfold DX7_turn at h
  unfold am_F
  refine am_E.go (n := 1) rfl ?_
  refine am_E.callF rfl (by decide) (axX7_areHours rfl) ?_
  refine am_E.brk rfl (fun hp => ?_) (fun hp => ?_)
  · have h := (if_pos hp).symm.trans h
    refine am_E.go (n := 3) rfl ?_
    obtain ⟨q1, hq, h⟩ := am_bindI h
    refine am_E.callF rfl (by decide) (axX4_bestSide (by decide) hq) ?_
    cases h
    exact am_E.ret rfl ⟨rfl, rfl⟩
  · have h := (if_neg hp).symm.trans h
    refine am_E.go (n := 1) rfl ?_
    obtain ⟨q2, hq, h⟩ := am_bindI h
    obtain ⟨q2_1, q2_2, q2_3⟩ := q2
    refine am_E.callF rfl (by decide) (axX7_refuse hq) ?_
    cases h
    exact am_E.ret rfl ⟨rfl, rfl⟩
def DX7_next (I : Nat → Nat → Int32) : Option Int32 :=
  (DX4_nextCell I 2).bind fun q1 =>
  some q1
set_option maxHeartbeats 4000000 in
set_option maxRecDepth 100000 in
theorem axX7_next {I : Nat → Nat → Int32} {J : Nat → Nat → Int64} {r : Int32} (h : DX7_next I = some r) : am_F 4 nX7_next [.ref 0] (TX, I, J, RX) (some (.int r)) (TX, I, J, RX) := by
  unfold DX7_next at h
  unfold am_F
  refine am_E.go (n := 1) rfl ?_
  obtain ⟨q1, hq, h⟩ := am_bindI h
  refine am_E.callF rfl (by decide) (axX4_nextCell (by decide) hq) ?_
  cases h
  exact am_E.ret rfl ⟨rfl, rfl⟩
def DX7_done (I : Nat → Nat → Int32) (J : Nat → Nat → Int64) (a0 : Int32) : Option (Int32 × (Nat → Nat → Int32) × (Nat → Nat → Int64)) :=
  if a0 < (1 : Int32) then
    (DX7_refuse I J ((-6 : Int32))).bind fun q1 =>
    some (q1.1, q1.2.1, q1.2.2)
  else
    if a0 ≤ (6 : Int32) then
      (DX6_lastMinute I J 2 a0).bind fun q2 =>
      some (q2.1, q2.2.1, q2.2.2)
    else
      (DX7_refuse I J ((-6 : Int32))).bind fun q3 =>
      some (q3.1, q3.2.1, q3.2.2)
set_option maxHeartbeats 4000000 in
set_option maxRecDepth 100000 in
theorem axX7_done {I : Nat → Nat → Int32} {J : Nat → Nat → Int64} {a0 : Int32} {r : Int32} {I' : Nat → Nat → Int32} {J' : Nat → Nat → Int64} (h : DX7_done I J a0 = some (r, I', J')) : am_F 6 nX7_done [.ref 0, .int a0] (TX, I, J, RX) (some (.int r)) (TX, I', J', RX) := by
  unfold DX7_done at h
  unfold am_F
  refine am_E.go (n := 1) rfl ?_
  refine am_E.brk rfl (fun hp => ?_) (fun hp => ?_)
  · have h := (if_pos hp).symm.trans h
    refine am_E.go (n := 1) rfl ?_
    obtain ⟨q1, hq, h⟩ := am_bindI h
    obtain ⟨q1_1, q1_2, q1_3⟩ := q1
    refine am_E.callF rfl (by decide) (axX7_refuse hq) ?_
    cases h
    exact am_E.ret rfl ⟨rfl, rfl⟩
  · have h := (if_neg hp).symm.trans h
    refine am_E.go (n := 1) rfl ?_
    refine am_E.brk rfl (fun hp => ?_) (fun hp => ?_)
    · have h := (if_pos hp).symm.trans h
      refine am_E.go (n := 4) rfl ?_
      obtain ⟨q2, hq, h⟩ := am_bindI h
      obtain ⟨q2_1, q2_2, q2_3⟩ := q2
      refine am_E.callF rfl (by decide) (axX6_lastMinute (by decide) hq) ?_
      cases h
      exact am_E.ret rfl ⟨rfl, rfl⟩
    · have h := (if_neg hp).symm.trans h
      refine am_E.go (n := 1) rfl ?_
      obtain ⟨q3, hq, h⟩ := am_bindI h
      obtain ⟨q3_1, q3_2, q3_3⟩ := q3
      refine am_E.callF rfl (by decide) (axX7_refuse hq) ?_
      cases h
      exact am_E.ret rfl ⟨rfl, rfl⟩
def LX7_women : Nat → (Nat → Nat → Int32) → (Nat → Nat → Int64) → Int32 → Int32 → Option (Int32 × (Nat → Nat → Int32) × (Nat → Nat → Int64))
  | 0, _, _, _, _ => none
  | n + 1, I, J, x1, x2 =>
    if (6 : Int32) < x2 then
      some ((-1 : Int32), I, J)
    else
      (DX6_lastMinute I J 2 x2).bind fun q4 =>
      if x1 < q4.1 then
        LX7_women n q4.2.1 q4.2.2 x1 ((x2 + (1 : Int32)))
      else
        some (x2, q4.2.1, q4.2.2)
def DX7_women (I : Nat → Nat → Int32) (J : Nat → Nat → Int64) (a0 : Int32) : Option (Int32 × (Nat → Nat → Int32) × (Nat → Nat → Int64)) :=
  if a0 < 0 then
    (DX7_refuse I J ((-16 : Int32))).bind fun q1 =>
    some (q1.1, q1.2.1, q1.2.2)
  else
    if a0 ≤ (999 : Int32) then
      LX7_women am_FU I J a0 ((1 : Int32))
    else
      (DX7_refuse I J ((-16 : Int32))).bind fun q2 =>
      some (q2.1, q2.2.1, q2.2.2)
set_option maxHeartbeats 4000000 in
set_option maxRecDepth 100000 in
theorem alX7_women : ∀ (n : Nat), ∀ {I : Nat → Nat → Int32} {J : Nat → Nat → Int64} {x1 : Int32} {x2 : Int32} {I' : Nat → Nat → Int32} {J' : Nat → Nat → Int64} {r : Int32}, LX7_women n I J x1 x2 = some (r, I', J') → am_E 6 nX7_women (20, [.ref 0, .int x1, .int x2], [], (TX, I, J, RX)) (fun v M' => v = some (.int r) ∧ M' = (TX, I', J', RX)) := by
  intro n
  induction n with
  | zero => intros; contradiction
  | succ n ih =>
    intro I J x1 x2 I' J' r h
    simp only [LX7_women] at h
    refine am_E.go (n := 1) rfl ?_
    refine am_E.brk rfl (fun hp => ?_) (fun hp => ?_)
    · have h := (if_pos hp).symm.trans h
      refine am_E.go (n := 0) rfl ?_
      cases h
      exact am_E.ret rfl ⟨rfl, rfl⟩
    · have h := (if_neg hp).symm.trans h
      refine am_E.go (n := 4) rfl ?_
      obtain ⟨q4, hq, h⟩ := am_bindI h
      obtain ⟨q4_1, q4_2, q4_3⟩ := q4
      refine am_E.callF rfl (by decide) (axX6_lastMinute (by decide) hq) ?_
      refine am_E.go (n := 0) rfl ?_
      refine am_E.brk rfl (fun hp => ?_) (fun hp => ?_)
      · have h := (if_pos hp).symm.trans h
        refine am_E.go (n := 1) rfl ?_
        exact ih h
      · have h := (if_neg hp).symm.trans h
        refine am_E.go (n := 0) rfl ?_
        cases h
        exact am_E.ret rfl ⟨rfl, rfl⟩
set_option maxHeartbeats 4000000 in
set_option maxRecDepth 100000 in
theorem axX7_women {I : Nat → Nat → Int32} {J : Nat → Nat → Int64} {a0 : Int32} {r : Int32} {I' : Nat → Nat → Int32} {J' : Nat → Nat → Int64} (h : DX7_women I J a0 = some (r, I', J')) : am_F 6 nX7_women [.ref 0, .int a0, .retAddr 0] (TX, I, J, RX) (some (.int r)) (TX, I', J', RX) := by
  unfold DX7_women at h
  unfold am_F
  refine am_E.go (n := 0) rfl ?_
  refine am_E.brk rfl (fun hp => ?_) (fun hp => ?_)
  · have h := (if_pos hp).symm.trans h
    refine am_E.go (n := 1) rfl ?_
    obtain ⟨q1, hq, h⟩ := am_bindI h
    obtain ⟨q1_1, q1_2, q1_3⟩ := q1
    refine am_E.callF rfl (by decide) (axX7_refuse hq) ?_
    cases h
    exact am_E.ret rfl ⟨rfl, rfl⟩
  · have h := (if_neg hp).symm.trans h
    refine am_E.go (n := 1) rfl ?_
    refine am_E.brk rfl (fun hp => ?_) (fun hp => ?_)
    · have h := (if_pos hp).symm.trans h
      refine am_E.go (n := 1) rfl ?_
      exact (alX7_women am_FU) h
    · have h := (if_neg hp).symm.trans h
      refine am_E.go (n := 1) rfl ?_
      obtain ⟨q2, hq, h⟩ := am_bindI h
      obtain ⟨q2_1, q2_2, q2_3⟩ := q2
      refine am_E.callF rfl (by decide) (axX7_refuse hq) ?_
      cases h
      exact am_E.ret rfl ⟨rfl, rfl⟩
def DX7_dry (I : Nat → Nat → Int32) : Option Int32 :=
  (DX4_firstDryHour I 2).bind fun q1 =>
  some q1
set_option maxHeartbeats 4000000 in
set_option maxRecDepth 100000 in
theorem axX7_dry {I : Nat → Nat → Int32} {J : Nat → Nat → Int64} {r : Int32} (h : DX7_dry I = some r) : am_F 2 nX7_dry [.ref 0] (TX, I, J, RX) (some (.int r)) (TX, I, J, RX) := by
  unfold DX7_dry at h
  unfold am_F
  refine am_E.go (n := 1) rfl ?_
  obtain ⟨q1, hq, h⟩ := am_bindI h
  refine am_E.callF rfl (by decide) (axX4_firstDryHour (by decide) hq) ?_
  cases h
  exact am_E.ret rfl ⟨rfl, rfl⟩
def DX7_sprayings (I : Nat → Nat → Int32) (J : Nat → Nat → Int64) (a0 : Int32) : Option (Int32 × (Nat → Nat → Int32) × (Nat → Nat → Int64)) :=
  if ¬ (DX7_isHour a0) = 0 then
    (DX4_spraysNeeded I 2 a0).bind fun q1 =>
    some (q1, I, J)
  else
    (DX7_refuse I J ((-6 : Int32))).bind fun q2 =>
    some (q2.1, q2.2.1, q2.2.2)
set_option maxHeartbeats 4000000 in
set_option maxRecDepth 100000 in
theorem axX7_sprayings {I : Nat → Nat → Int32} {J : Nat → Nat → Int64} {a0 : Int32} {r : Int32} {I' : Nat → Nat → Int32} {J' : Nat → Nat → Int64} (h : DX7_sprayings I J a0 = some (r, I', J')) : am_F 2 nX7_sprayings [.ref 0, .int a0] (TX, I, J, RX) (some (.int r)) (TX, I', J', RX) := by
  unfold DX7_sprayings at h
  unfold am_F
  refine am_E.go (n := 0) rfl ?_
  refine am_E.callF rfl (by decide) (axX7_isHour rfl) ?_
  refine am_E.brk rfl (fun hp => ?_) (fun hp => ?_)
  · have h := (if_pos hp).symm.trans h
    refine am_E.go (n := 2) rfl ?_
    obtain ⟨q1, hq, h⟩ := am_bindI h
    refine am_E.callF rfl (by decide) (axX4_spraysNeeded (by decide) hq) ?_
    cases h
    exact am_E.ret rfl ⟨rfl, rfl⟩
  · have h := (if_neg hp).symm.trans h
    refine am_E.go (n := 1) rfl ?_
    obtain ⟨q2, hq, h⟩ := am_bindI h
    obtain ⟨q2_1, q2_2, q2_3⟩ := q2
    refine am_E.callF rfl (by decide) (axX7_refuse hq) ?_
    cases h
    exact am_E.ret rfl ⟨rfl, rfl⟩
def DX7_was (I : Nat → Nat → Int32) (J : Nat → Nat → Int64) (a0 : Int32) (a1 : Int32) (a2 : Int32) (a3 : Int32) : Option (Int32 × (Nat → Nat → Int32) × (Nat → Nat → Int64)) :=
  if (DX7_isHour a0) = 0 then
    (DX7_refuse I J ((-6 : Int32))).bind fun q1 =>
    some (q1.1, q1.2.1, q1.2.2)
  else
    if (DX7_isHour a1) = 0 then
      (DX7_refuse I J ((-6 : Int32))).bind fun q2 =>
      some (q2.1, q2.2.1, q2.2.2)
    else
      if a2 < 0 then
        (DX7_refuse I J ((-6 : Int32))).bind fun q3 =>
        some (q3.1, q3.2.1, q3.2.2)
      else
        if (20 : Int32) < a2 then
          (DX7_refuse I J ((-6 : Int32))).bind fun q4 =>
          some (q4.1, q4.2.1, q4.2.2)
        else
          if a3 < 0 then
            (DX7_refuse I J ((-6 : Int32))).bind fun q5 =>
            some (q5.1, q5.2.1, q5.2.2)
          else
            if (9 : Int32) < a3 then
              (DX7_refuse I J ((-6 : Int32))).bind fun q6 =>
              some (q6.1, q6.2.1, q6.2.2)
            else
              (DX4_stuffsAsFresh I 2 a0 a1 a2 a3).bind fun q7 =>
              some (q7, I, J)
set_option maxHeartbeats 4000000 in
set_option maxRecDepth 100000 in
theorem axX7_was {I : Nat → Nat → Int32} {J : Nat → Nat → Int64} {a0 : Int32} {a1 : Int32} {a2 : Int32} {a3 : Int32} {r : Int32} {I' : Nat → Nat → Int32} {J' : Nat → Nat → Int64} (h : DX7_was I J a0 a1 a2 a3 = some (r, I', J')) : am_F 3 nX7_was [.ref 0, .int a0, .int a1, .int a2, .int a3, .retAddr 0] (TX, I, J, RX) (some (.int r)) (TX, I', J', RX) := by
  unfold DX7_was at h
  unfold am_F
  refine am_E.go (n := 0) rfl ?_
  refine am_E.callF rfl (by decide) (axX7_isHour rfl) ?_
  refine am_E.brk rfl (fun hp => ?_) (fun hp => ?_)
  · have h := (if_pos hp).symm.trans h
    refine am_E.go (n := 2) rfl ?_
    refine am_E.step rfl ?_
    refine am_E.go (n := 1) rfl ?_
    obtain ⟨q1, hq, h⟩ := am_bindI h
    obtain ⟨q1_1, q1_2, q1_3⟩ := q1
    refine am_E.callF rfl (by decide) (axX7_refuse hq) ?_
    cases h
    exact am_E.ret rfl ⟨rfl, rfl⟩
  · have h := (if_neg hp).symm.trans h
    refine am_E.go (n := 0) rfl ?_
    refine am_E.callF rfl (by decide) (axX7_isHour rfl) ?_
    refine am_E.brk rfl (fun hp => ?_) (fun hp => ?_)
    · have h := (if_pos hp).symm.trans h
      refine am_E.go (n := 2) rfl ?_
      refine am_E.step rfl ?_
      refine am_E.go (n := 1) rfl ?_
      obtain ⟨q2, hq, h⟩ := am_bindI h
      obtain ⟨q2_1, q2_2, q2_3⟩ := q2
      refine am_E.callF rfl (by decide) (axX7_refuse hq) ?_
      cases h
      exact am_E.ret rfl ⟨rfl, rfl⟩
    · have h := (if_neg hp).symm.trans h
      refine am_E.go (n := 0) rfl ?_
      refine am_E.brk rfl (fun hp => ?_) (fun hp => ?_)
      · have h := (if_pos hp).symm.trans h
        refine am_E.go (n := 2) rfl ?_
        refine am_E.step rfl ?_
        refine am_E.go (n := 1) rfl ?_
        obtain ⟨q3, hq, h⟩ := am_bindI h
        obtain ⟨q3_1, q3_2, q3_3⟩ := q3
        refine am_E.callF rfl (by decide) (axX7_refuse hq) ?_
        cases h
        exact am_E.ret rfl ⟨rfl, rfl⟩
      · have h := (if_neg hp).symm.trans h
        refine am_E.go (n := 1) rfl ?_
        refine am_E.brk rfl (fun hp => ?_) (fun hp => ?_)
        · have h := (if_pos hp).symm.trans h
          refine am_E.go (n := 2) rfl ?_
          refine am_E.step rfl ?_
          refine am_E.go (n := 1) rfl ?_
          obtain ⟨q4, hq, h⟩ := am_bindI h
          obtain ⟨q4_1, q4_2, q4_3⟩ := q4
          refine am_E.callF rfl (by decide) (axX7_refuse hq) ?_
          cases h
          exact am_E.ret rfl ⟨rfl, rfl⟩
        · have h := (if_neg hp).symm.trans h
          refine am_E.go (n := 0) rfl ?_
          refine am_E.brk rfl (fun hp => ?_) (fun hp => ?_)
          · have h := (if_pos hp).symm.trans h
            refine am_E.go (n := 2) rfl ?_
            refine am_E.step rfl ?_
            refine am_E.go (n := 1) rfl ?_
            obtain ⟨q5, hq, h⟩ := am_bindI h
            obtain ⟨q5_1, q5_2, q5_3⟩ := q5
            refine am_E.callF rfl (by decide) (axX7_refuse hq) ?_
            cases h
            exact am_E.ret rfl ⟨rfl, rfl⟩
          · have h := (if_neg hp).symm.trans h
            refine am_E.go (n := 1) rfl ?_
            refine am_E.brk rfl (fun hp => ?_) (fun hp => ?_)
            · have h := (if_pos hp).symm.trans h
              refine am_E.go (n := 2) rfl ?_
              refine am_E.step rfl ?_
              refine am_E.go (n := 1) rfl ?_
              obtain ⟨q6, hq, h⟩ := am_bindI h
              obtain ⟨q6_1, q6_2, q6_3⟩ := q6
              refine am_E.callF rfl (by decide) (axX7_refuse hq) ?_
              cases h
              exact am_E.ret rfl ⟨rfl, rfl⟩
            · have h := (if_neg hp).symm.trans h
              refine am_E.go (n := 3) rfl ?_
              refine am_E.step rfl ?_
              refine am_E.go (n := 5) rfl ?_
              obtain ⟨q7, hq, h⟩ := am_bindI h
              refine am_E.callF rfl (by decide) (axX4_stuffsAsFresh (by decide) hq) ?_
              cases h
              exact am_E.ret rfl ⟨rfl, rfl⟩
