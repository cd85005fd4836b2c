/-! THE METHODS AS FUNCTIONS over the memory, and the row that their runs do so: laid by program (wip/whole/decomp.py) -/
def DX8_adds (I : Nat → Nat → Int32) (J : Nat → Nat → Int64) (a0 : Int32) (a1 : Int32) (a2 : Int32) : Option (Int32 × (Nat → Nat → Int32) × (Nat → Nat → Int64)) :=
  if ¬ ((I 0 0) < 0 ∨ 8 ≤ ((I 0 0)).toNatClampNeg) then
    if ¬ ((((am_upI I 2 ((I 0 0)).toNatClampNeg a0)) 0 0) < 0 ∨ 8 ≤ ((((am_upI I 2 ((I 0 0)).toNatClampNeg a0)) 0 0)).toNatClampNeg) then
      (some (am_upI ((am_upI I 2 ((I 0 0)).toNatClampNeg a0)) 3 ((((am_upI I 2 ((I 0 0)).toNatClampNeg a0)) 0 0)).toNatClampNeg a1)).bind fun I1 =>
      if ¬ ((I1 0 0) < 0 ∨ 8 ≤ ((I1 0 0)).toNatClampNeg) then
        (some (am_upI ((am_upI I1 4 ((I1 0 0)).toNatClampNeg a2)) 0 0 ((((am_upI I1 4 ((I1 0 0)).toNatClampNeg a2)) 0 0) + (1 : Int32)))).bind fun I2 =>
        some ((((am_upI I1 4 ((I1 0 0)).toNatClampNeg a2)) 0 0), I2, J)
      else none
    else none
  else none
set_option maxHeartbeats 4000000 in
set_option maxRecDepth 100000 in
theorem axX8_adds {I : Nat → Nat → Int32} {J : Nat → Nat → Int64} {a0 : Int32} {a1 : Int32} {a2 : Int32} {r : Int32} {I' : Nat → Nat → Int32} {J' : Nat → Nat → Int64} (h : DX8_adds I J a0 a1 a2 = some (r, I', J')) : am_F 0 nX8_adds [.ref 0, .int a0, .int a1, .int a2] (TM, I, J, RM) (some (.int r)) (TM, I', J', RM) := by
  unfold DX8_adds at h
  unfold am_F
  refine am_E.go (n := 4) rfl ?_
  obtain ⟨hg, h⟩ := am_ifI h
  refine am_E.grd rfl hg ?_
  refine am_E.go (n := 4) rfl ?_
  obtain ⟨hg, h⟩ := am_ifI h
  refine am_E.grd rfl hg ?_
  obtain ⟨I1, hI, h⟩ := am_bindI h
  obtain rfl := Option.some.inj hI
  refine am_E.go (n := 4) rfl ?_
  obtain ⟨hg, h⟩ := am_ifI h
  refine am_E.grd rfl hg ?_
  refine am_E.go (n := 6) rfl ?_
  obtain ⟨I2, hI, h⟩ := am_bindI h
  obtain rfl := Option.some.inj hI
  cases h
  exact am_E.ret rfl ⟨rfl, rfl⟩
def DX8_stuff (I : Nat → Nat → Int32) (J : Nat → Nat → Int64) (a0 : Int32) (a1 : Int32) (a2 : Int32) : Option (Int32 × (Nat → Nat → Int32) × (Nat → Nat → Int64)) :=
  if a0 < 0 then
    (DX8_no I J ((-1 : Int32))).bind fun q1 =>
    some (q1.1, q1.2.1, q1.2.2)
  else
    if a0 ≤ (6 : Int32) then
      if a1 < 0 then
        (DX8_no I J ((-6 : Int32))).bind fun q2 =>
        some (q2.1, q2.2.1, q2.2.2)
      else
        if (7 : Int32) < a1 then
          (DX8_no I J ((-6 : Int32))).bind fun q3 =>
          some (q3.1, q3.2.1, q3.2.2)
        else
          if a2 < 0 then
            (DX8_no I J ((-6 : Int32))).bind fun q4 =>
            some (q4.1, q4.2.1, q4.2.2)
          else
            if a2 ≤ (9 : Int32) then
              if ¬ (I 0 0) = (8 : Int32) then
                (DX8_adds I J a0 a1 a2).bind fun q5 =>
                some (q5.1, q5.2.1, q5.2.2)
              else
                (DX8_no I J ((-7 : Int32))).bind fun q6 =>
                some (q6.1, q6.2.1, q6.2.2)
            else
              (DX8_no I J ((-6 : Int32))).bind fun q7 =>
              some (q7.1, q7.2.1, q7.2.2)
    else
      (DX8_no I J ((-1 : Int32))).bind fun q8 =>
      some (q8.1, q8.2.1, q8.2.2)
set_option maxHeartbeats 4000000 in
set_option maxRecDepth 100000 in
theorem axX8_stuff {I : Nat → Nat → Int32} {J : Nat → Nat → Int64} {a0 : Int32} {a1 : Int32} {a2 : Int32} {r : Int32} {I' : Nat → Nat → Int32} {J' : Nat → Nat → Int64} (h : DX8_stuff I J a0 a1 a2 = some (r, I', J')) : am_F 1 nX8_stuff [.ref 0, .int a0, .int a1, .int a2] (TM, I, J, RM) (some (.int r)) (TM, I', J', RM) := by
  unfold DX8_stuff at h
  unfold am_F
  refine am_E.go (n := 0) rfl ?_
  refine am_E.brk rfl (fun hp => ?_) (fun hp => ?_)
  · have h := (if_pos hp).symm.trans h
    refine am_E.go (n := 1) rfl ?_
    obtain ⟨q1, hq, h⟩ := am_bindI h
    obtain ⟨q1_1, q1_2, q1_3⟩ := q1
    refine am_E.callF rfl (by decide) (axX8_no hq) ?_
    cases h
    exact am_E.ret rfl ⟨rfl, rfl⟩
  · have h := (if_neg hp).symm.trans h
    refine am_E.go (n := 1) rfl ?_
    refine am_E.brk rfl (fun hp => ?_) (fun hp => ?_)
    · have h := (if_pos hp).symm.trans h
      refine am_E.go (n := 0) rfl ?_
      refine am_E.brk rfl (fun hp => ?_) (fun hp => ?_)
      · have h := (if_pos hp).symm.trans h
        refine am_E.go (n := 1) rfl ?_
        obtain ⟨q2, hq, h⟩ := am_bindI h
        obtain ⟨q2_1, q2_2, q2_3⟩ := q2
        refine am_E.callF rfl (by decide) (axX8_no hq) ?_
        cases h
        exact am_E.ret rfl ⟨rfl, rfl⟩
      · have h := (if_neg hp).symm.trans h
        refine am_E.go (n := 1) rfl ?_
        refine am_E.brk rfl (fun hp => ?_) (fun hp => ?_)
        · have h := (if_pos hp).symm.trans h
          refine am_E.go (n := 1) rfl ?_
          obtain ⟨q3, hq, h⟩ := am_bindI h
          obtain ⟨q3_1, q3_2, q3_3⟩ := q3
          refine am_E.callF rfl (by decide) (axX8_no hq) ?_
          cases h
          exact am_E.ret rfl ⟨rfl, rfl⟩
        · have h := (if_neg hp).symm.trans h
          refine am_E.go (n := 0) rfl ?_
          refine am_E.brk rfl (fun hp => ?_) (fun hp => ?_)
          · have h := (if_pos hp).symm.trans h
            refine am_E.go (n := 1) rfl ?_
            obtain ⟨q4, hq, h⟩ := am_bindI h
            obtain ⟨q4_1, q4_2, q4_3⟩ := q4
            refine am_E.callF rfl (by decide) (axX8_no hq) ?_
            cases h
            exact am_E.ret rfl ⟨rfl, rfl⟩
          · have h := (if_neg hp).symm.trans h
            refine am_E.go (n := 1) rfl ?_
            refine am_E.brk rfl (fun hp => ?_) (fun hp => ?_)
            · have h := (if_pos hp).symm.trans h
              refine am_E.go (n := 2) rfl ?_
              refine am_E.brk rfl (fun hp => ?_) (fun hp => ?_)
              · have h := (if_pos hp).symm.trans h
                refine am_E.go (n := 3) rfl ?_
                obtain ⟨q5, hq, h⟩ := am_bindI h
                obtain ⟨q5_1, q5_2, q5_3⟩ := q5
                refine am_E.callF rfl (by decide) (axX8_adds hq) ?_
                cases h
                exact am_E.ret rfl ⟨rfl, rfl⟩
              · have h := (if_neg hp).symm.trans h
                refine am_E.go (n := 1) rfl ?_
                obtain ⟨q6, hq, h⟩ := am_bindI h
                obtain ⟨q6_1, q6_2, q6_3⟩ := q6
                refine am_E.callF rfl (by decide) (axX8_no hq) ?_
                refine am_E.go (n := 0) rfl ?_
                cases h
                exact am_E.ret rfl ⟨rfl, rfl⟩
            · have h := (if_neg hp).symm.trans h
              refine am_E.go (n := 1) rfl ?_
              obtain ⟨q7, hq, h⟩ := am_bindI h
              obtain ⟨q7_1, q7_2, q7_3⟩ := q7
              refine am_E.callF rfl (by decide) (axX8_no hq) ?_
              cases h
              exact am_E.ret rfl ⟨rfl, rfl⟩
    · have h := (if_neg hp).symm.trans h
      refine am_E.go (n := 1) rfl ?_
      obtain ⟨q8, hq, h⟩ := am_bindI h
      obtain ⟨q8_1, q8_2, q8_3⟩ := q8
      refine am_E.callF rfl (by decide) (axX8_no hq) ?_
      cases h
      exact am_E.ret rfl ⟨rfl, rfl⟩
def DX8_stuffOf (I : Nat → Nat → Int32) (J : Nat → Nat → Int64) (a0 : Int32) (a1 : Int32) : Option (Int32 × (Nat → Nat → Int32) × (Nat → Nat → Int64)) :=
  if (DX8_isStuff I a0) = 0 then
    (DX8_no I J ((-5 : Int32))).bind fun q1 =>
    some (q1.1, q1.2.1, q1.2.2)
  else
    if a1 < 0 then
      (DX8_no I J ((-5 : Int32))).bind fun q2 =>
      some (q2.1, q2.2.1, q2.2.2)
    else
      if a1 ≤ (2 : Int32) then
        if ¬ a1 = 0 then
          if ¬ a1 = (1 : Int32) then
            if ¬ (a0 < 0 ∨ 8 ≤ (a0).toNatClampNeg) then
              some ((I 4 (a0).toNatClampNeg), I, J)
            else none
          else
            if ¬ (a0 < 0 ∨ 8 ≤ (a0).toNatClampNeg) then
              some ((I 3 (a0).toNatClampNeg), I, J)
            else none
        else
          if ¬ (a0 < 0 ∨ 8 ≤ (a0).toNatClampNeg) then
            some ((I 2 (a0).toNatClampNeg), I, J)
          else none
      else
        (DX8_no I J ((-5 : Int32))).bind fun q3 =>
        some (q3.1, q3.2.1, q3.2.2)
set_option maxHeartbeats 4000000 in
set_option maxRecDepth 100000 in
theorem axX8_stuffOf {I : Nat → Nat → Int32} {J : Nat → Nat → Int64} {a0 : Int32} {a1 : Int32} {r : Int32} {I' : Nat → Nat → Int32} {J' : Nat → Nat → Int64} (h : DX8_stuffOf I J a0 a1 = some (r, I', J')) : am_F 1 nX8_stuffOf [.ref 0, .int a0, .int a1] (TM, I, J, RM) (some (.int r)) (TM, I', J', RM) := by
  unfold DX8_stuffOf at h
  unfold am_F
  refine am_E.go (n := 1) rfl ?_
  refine am_E.callF rfl (by decide) (axX8_isStuff rfl) ?_
  refine am_E.brk rfl (fun hp => ?_) (fun hp => ?_)
  · have h := (if_pos hp).symm.trans h
    refine am_E.go (n := 1) rfl ?_
    obtain ⟨q1, hq, h⟩ := am_bindI h
    obtain ⟨q1_1, q1_2, q1_3⟩ := q1
    refine am_E.callF rfl (by decide) (axX8_no hq) ?_
    cases h
    exact am_E.ret rfl ⟨rfl, rfl⟩
  · have h := (if_neg hp).symm.trans h
    refine am_E.go (n := 0) rfl ?_
    refine am_E.brk rfl (fun hp => ?_) (fun hp => ?_)
    · have h := (if_pos hp).symm.trans h
      refine am_E.go (n := 1) rfl ?_
      obtain ⟨q2, hq, h⟩ := am_bindI h
      obtain ⟨q2_1, q2_2, q2_3⟩ := q2
      refine am_E.callF rfl (by decide) (axX8_no hq) ?_
      cases h
      exact am_E.ret rfl ⟨rfl, rfl⟩
    · have h := (if_neg hp).symm.trans h
      refine am_E.go (n := 1) rfl ?_
      refine am_E.brk rfl (fun hp => ?_) (fun hp => ?_)
      · have h := (if_pos hp).symm.trans h
        refine am_E.go (n := 0) rfl ?_
        refine am_E.brk rfl (fun hp => ?_) (fun hp => ?_)
        · have h := (if_pos hp).symm.trans h
          refine am_E.go (n := 1) rfl ?_
          refine am_E.brk rfl (fun hp => ?_) (fun hp => ?_)
          · have h := (if_pos hp).symm.trans h
            refine am_E.go (n := 2) rfl ?_
            obtain ⟨hg, h⟩ := am_ifI h
            refine am_E.grd rfl hg ?_
            cases h
            exact am_E.ret rfl ⟨rfl, rfl⟩
          · have h := (if_neg hp).symm.trans h
            refine am_E.go (n := 2) rfl ?_
            obtain ⟨hg, h⟩ := am_ifI h
            refine am_E.grd rfl hg ?_
            refine am_E.go (n := 0) rfl ?_
            cases h
            exact am_E.ret rfl ⟨rfl, rfl⟩
        · have h := (if_neg hp).symm.trans h
          refine am_E.go (n := 2) rfl ?_
          obtain ⟨hg, h⟩ := am_ifI h
          refine am_E.grd rfl hg ?_
          refine am_E.go (n := 0) rfl ?_
          cases h
          exact am_E.ret rfl ⟨rfl, rfl⟩
      · have h := (if_neg hp).symm.trans h
        refine am_E.go (n := 1) rfl ?_
        obtain ⟨q3, hq, h⟩ := am_bindI h
        obtain ⟨q3_1, q3_2, q3_3⟩ := q3
        refine am_E.callF rfl (by decide) (axX8_no hq) ?_
        cases h
        exact am_E.ret rfl ⟨rfl, rfl⟩
def DX8_cell (I : Nat → Nat → Int32) (J : Nat → Nat → Int64) (a0 : Int32) (a1 : Int32) : Option (Int32 × (Nat → Nat → Int32) × (Nat → Nat → Int64)) :=
  if ¬ (DX8_isCell a0) = 0 then
    if a1 < (-1 : Int32) then
      (DX8_no I J ((-6 : Int32))).bind fun q1 =>
      some (q1.1, q1.2.1, q1.2.2)
    else
      if a1 ≤ (7 : Int32) then
        if ¬ (a0 < 0 ∨ 24 ≤ (a0).toNatClampNeg) then
          if ¬ a1 = (-1 : Int32) then
            some ((1 : Int32), (am_upI I 5 (a0).toNatClampNeg a1), J)
          else
            some ((0 : Int32), (am_upI I 5 (a0).toNatClampNeg a1), J)
        else none
      else
        (DX8_no I J ((-6 : Int32))).bind fun q2 =>
        some (q2.1, q2.2.1, q2.2.2)
  else
    (DX8_no I J ((-1 : Int32))).bind fun q3 =>
    some (q3.1, q3.2.1, q3.2.2)
set_option maxHeartbeats 4000000 in
set_option maxRecDepth 100000 in
theorem axX8_cell {I : Nat → Nat → Int32} {J : Nat → Nat → Int64} {a0 : Int32} {a1 : Int32} {r : Int32} {I' : Nat → Nat → Int32} {J' : Nat → Nat → Int64} (h : DX8_cell I J a0 a1 = some (r, I', J')) : am_F 1 nX8_cell [.ref 0, .int a0, .int a1] (TM, I, J, RM) (some (.int r)) (TM, I', J', RM) := by
  unfold DX8_cell at h
  unfold am_F
  refine am_E.go (n := 1) rfl ?_
  refine am_E.callF rfl (by decide) (axX8_isCell rfl) ?_
  refine am_E.brk rfl (fun hp => ?_) (fun hp => ?_)
  · have h := (if_pos hp).symm.trans h
    refine am_E.go (n := 1) rfl ?_
    refine am_E.brk rfl (fun hp => ?_) (fun hp => ?_)
    · have h := (if_pos hp).symm.trans h
      refine am_E.go (n := 1) rfl ?_
      obtain ⟨q1, hq, h⟩ := am_bindI h
      obtain ⟨q1_1, q1_2, q1_3⟩ := q1
      refine am_E.callF rfl (by decide) (axX8_no hq) ?_
      cases h
      exact am_E.ret rfl ⟨rfl, rfl⟩
    · have h := (if_neg hp).symm.trans h
      refine am_E.go (n := 1) rfl ?_
      refine am_E.brk rfl (fun hp => ?_) (fun hp => ?_)
      · have h := (if_pos hp).symm.trans h
        refine am_E.go (n := 3) rfl ?_
        obtain ⟨hg, h⟩ := am_ifI h
        refine am_E.grd rfl hg ?_
        refine am_E.go (n := 1) rfl ?_
        refine am_E.brk rfl (fun hp => ?_) (fun hp => ?_)
        · have h := (if_pos hp).symm.trans h
          refine am_E.go (n := 0) rfl ?_
          cases h
          exact am_E.ret rfl ⟨rfl, rfl⟩
        · have h := (if_neg hp).symm.trans h
          refine am_E.go (n := 1) rfl ?_
          cases h
          exact am_E.ret rfl ⟨rfl, rfl⟩
      · have h := (if_neg hp).symm.trans h
        refine am_E.go (n := 1) rfl ?_
        obtain ⟨q2, hq, h⟩ := am_bindI h
        obtain ⟨q2_1, q2_2, q2_3⟩ := q2
        refine am_E.callF rfl (by decide) (axX8_no hq) ?_
        cases h
        exact am_E.ret rfl ⟨rfl, rfl⟩
  · have h := (if_neg hp).symm.trans h
    refine am_E.go (n := 1) rfl ?_
    obtain ⟨q3, hq, h⟩ := am_bindI h
    obtain ⟨q3_1, q3_2, q3_3⟩ := q3
    refine am_E.callF rfl (by decide) (axX8_no hq) ?_
    cases h
    exact am_E.ret rfl ⟨rfl, rfl⟩
def DX8_cellOf (I : Nat → Nat → Int32) (J : Nat → Nat → Int64) (a0 : Int32) (a1 : Int32) : Option (Int32 × (Nat → Nat → Int32) × (Nat → Nat → Int64)) :=
  if (DX8_isCell a0) = 0 then
    (DX8_noTen I J ((-5 : Int32))).bind fun q1 =>
    some (q1.1, q1.2.1, q1.2.2)
  else
    if a1 < 0 then
      (DX8_noTen I J ((-5 : Int32))).bind fun q2 =>
      some (q2.1, q2.2.1, q2.2.2)
    else
      if a1 ≤ (5 : Int32) then
        if a1 = 0 then
          (if ¬ (a0 < 0 ∨ 24 ≤ (a0).toNatClampNeg) then
            some ((I 5 (a0).toNatClampNeg), I, J)
          else none)
        else if a1 = 1 then
          (if ¬ (a0 < 0 ∨ 24 ≤ (a0).toNatClampNeg) then
            some ((I 6 (a0).toNatClampNeg), I, J)
          else none)
        else if a1 = 2 then
          (if ¬ (a0 < 0 ∨ 24 ≤ (a0).toNatClampNeg) then
            some ((I 7 (a0).toNatClampNeg), I, J)
          else none)
        else if a1 = 3 then
          (if ¬ (a0 < 0 ∨ 24 ≤ (a0).toNatClampNeg) then
            some ((I 8 (a0).toNatClampNeg), I, J)
          else none)
        else if a1 = 4 then
          (if ¬ (a0 < 0 ∨ 24 ≤ (a0).toNatClampNeg) then
            some ((I 9 (a0).toNatClampNeg), I, J)
          else none)
        else if ¬ (a0 < 0 ∨ 24 ≤ (a0).toNatClampNeg) then
          some ((I 10 (a0).toNatClampNeg), I, J)
        else none
      else
        (DX8_noTen I J ((-5 : Int32))).bind fun q3 =>
        some (q3.1, q3.2.1, q3.2.2)
set_option maxHeartbeats 4000000 in
set_option maxRecDepth 100000 in
theorem axX8_cellOf {I : Nat → Nat → Int32} {J : Nat → Nat → Int64} {a0 : Int32} {a1 : Int32} {r : Int32} {I' : Nat → Nat → Int32} {J' : Nat → Nat → Int64} (h : DX8_cellOf I J a0 a1 = some (r, I', J')) : am_F 1 nX8_cellOf [.ref 0, .int a0, .int a1] (TM, I, J, RM) (some (.int r)) (TM, I', J', RM) := by
  unfold DX8_cellOf at h
  unfold am_F
  refine am_E.go (n := 1) rfl ?_
  refine am_E.callF rfl (by decide) (axX8_isCell rfl) ?_
  refine am_E.brk rfl (fun hp => ?_) (fun hp => ?_)
  · have h := (if_pos hp).symm.trans h
    refine am_E.go (n := 1) rfl ?_
    obtain ⟨q1, hq, h⟩ := am_bindI h
    obtain ⟨q1_1, q1_2, q1_3⟩ := q1
    refine am_E.callF rfl (by decide) (axX8_noTen hq) ?_
    cases h
    exact am_E.ret rfl ⟨rfl, rfl⟩
  · have h := (if_neg hp).symm.trans h
    refine am_E.go (n := 0) rfl ?_
    refine am_E.brk rfl (fun hp => ?_) (fun hp => ?_)
    · have h := (if_pos hp).symm.trans h
      refine am_E.go (n := 1) rfl ?_
      obtain ⟨q2, hq, h⟩ := am_bindI h
      obtain ⟨q2_1, q2_2, q2_3⟩ := q2
      refine am_E.callF rfl (by decide) (axX8_noTen hq) ?_
      cases h
      exact am_E.ret rfl ⟨rfl, rfl⟩
    · have h := (if_neg hp).symm.trans h
      refine am_E.go (n := 1) rfl ?_
      refine am_E.brk rfl (fun hp => ?_) (fun hp => ?_)
      · have h := (if_pos hp).symm.trans h
        refine am_E.go (n := 0) rfl ?_
        refine am_E.sw rfl ?_
        refine ⟨fun hp => ?_, fun hp => ?_⟩
        · have h := (if_pos hp).symm.trans h
          refine am_E.go (n := 2) rfl ?_
          obtain ⟨hg, h⟩ := am_ifI h
          refine am_E.grd rfl hg ?_
          cases h
          exact am_E.ret rfl ⟨rfl, rfl⟩
        have h := (if_neg hp).symm.trans h
        refine ⟨fun hp => ?_, fun hp => ?_⟩
        · have h := (if_pos hp).symm.trans h
          refine am_E.go (n := 2) rfl ?_
          obtain ⟨hg, h⟩ := am_ifI h
          refine am_E.grd rfl hg ?_
          cases h
          exact am_E.ret rfl ⟨rfl, rfl⟩
        have h := (if_neg hp).symm.trans h
        refine ⟨fun hp => ?_, fun hp => ?_⟩
        · have h := (if_pos hp).symm.trans h
          refine am_E.go (n := 2) rfl ?_
          obtain ⟨hg, h⟩ := am_ifI h
          refine am_E.grd rfl hg ?_
          cases h
          exact am_E.ret rfl ⟨rfl, rfl⟩
        have h := (if_neg hp).symm.trans h
        refine ⟨fun hp => ?_, fun hp => ?_⟩
        · have h := (if_pos hp).symm.trans h
          refine am_E.go (n := 2) rfl ?_
          obtain ⟨hg, h⟩ := am_ifI h
          refine am_E.grd rfl hg ?_
          cases h
          exact am_E.ret rfl ⟨rfl, rfl⟩
        have h := (if_neg hp).symm.trans h
        refine ⟨fun hp => ?_, fun hp => ?_⟩
        · have h := (if_pos hp).symm.trans h
          refine am_E.go (n := 2) rfl ?_
          obtain ⟨hg, h⟩ := am_ifI h
          refine am_E.grd rfl hg ?_
          cases h
          exact am_E.ret rfl ⟨rfl, rfl⟩
        have h := (if_neg hp).symm.trans h
        refine am_E.go (n := 2) rfl ?_
        obtain ⟨hg, h⟩ := am_ifI h
        refine am_E.grd rfl hg ?_
        cases h
        exact am_E.ret rfl ⟨rfl, rfl⟩
      · have h := (if_neg hp).symm.trans h
        refine am_E.go (n := 1) rfl ?_
        obtain ⟨q3, hq, h⟩ := am_bindI h
        obtain ⟨q3_1, q3_2, q3_3⟩ := q3
        refine am_E.callF rfl (by decide) (axX8_noTen hq) ?_
        cases h
        exact am_E.ret rfl ⟨rfl, rfl⟩
def DX8_plan (I : Nat → Nat → Int32) (J : Nat → Nat → Int64) (a0 : Int32) (a1 : Int32) : Option (Int32 × (Nat → Nat → Int32) × (Nat → Nat → Int64)) :=
  if (DX8_isCell a0) = 0 then
    (DX8_no I J ((-1 : Int32))).bind fun q1 =>
    some (q1.1, q1.2.1, q1.2.2)
  else
    if a1 = (-1 : Int32) then
      if ¬ (a0 < 0 ∨ 24 ≤ (a0).toNatClampNeg) then
        if ¬ a1 = (-1 : Int32) then
          some ((1 : Int32), (am_upI I 7 (a0).toNatClampNeg a1), J)
        else
          some ((0 : Int32), (am_upI I 7 (a0).toNatClampNeg a1), J)
      else none
    else
      if ¬ (DX8_isStuff I a1) = 0 then
        if ¬ (a0 < 0 ∨ 24 ≤ (a0).toNatClampNeg) then
          if ¬ a1 = (-1 : Int32) then
            some ((1 : Int32), (am_upI I 7 (a0).toNatClampNeg a1), J)
          else
            some ((0 : Int32), (am_upI I 7 (a0).toNatClampNeg a1), J)
        else none
      else
        (DX8_no I J ((-1 : Int32))).bind fun q2 =>
        some (q2.1, q2.2.1, q2.2.2)
set_option maxHeartbeats 4000000 in
set_option maxRecDepth 100000 in
theorem axX8_plan {I : Nat → Nat → Int32} {J : Nat → Nat → Int64} {a0 : Int32} {a1 : Int32} {r : Int32} {I' : Nat → Nat → Int32} {J' : Nat → Nat → Int64} (h : DX8_plan I J a0 a1 = some (r, I', J')) : am_F 1 nX8_plan [.ref 0, .int a0, .int a1] (TM, I, J, RM) (some (.int r)) (TM, I', J', RM) := by
  unfold DX8_plan at h
  unfold am_F
  refine am_E.go (n := 1) rfl ?_
  refine am_E.callF rfl (by decide) (axX8_isCell rfl) ?_
  refine am_E.brk rfl (fun hp => ?_) (fun hp => ?_)
  · have h := (if_pos hp).symm.trans h
    refine am_E.go (n := 1) rfl ?_
    obtain ⟨q1, hq, h⟩ := am_bindI h
    obtain ⟨q1_1, q1_2, q1_3⟩ := q1
    refine am_E.callF rfl (by decide) (axX8_no hq) ?_
    cases h
    exact am_E.ret rfl ⟨rfl, rfl⟩
  · have h := (if_neg hp).symm.trans h
    refine am_E.go (n := 1) rfl ?_
    refine am_E.brk rfl (fun hp => ?_) (fun hp => ?_)
    · have h := (if_pos hp).symm.trans h
      refine am_E.go (n := 3) rfl ?_
      obtain ⟨hg, h⟩ := am_ifI h
      refine am_E.grd rfl hg ?_
      refine am_E.go (n := 1) rfl ?_
      refine am_E.brk rfl (fun hp => ?_) (fun hp => ?_)
      · have h := (if_pos hp).symm.trans h
        refine am_E.go (n := 0) rfl ?_
        cases h
        exact am_E.ret rfl ⟨rfl, rfl⟩
      · have h := (if_neg hp).symm.trans h
        refine am_E.go (n := 1) rfl ?_
        cases h
        exact am_E.ret rfl ⟨rfl, rfl⟩
    · have h := (if_neg hp).symm.trans h
      refine am_E.go (n := 1) rfl ?_
      refine am_E.callF rfl (by decide) (axX8_isStuff rfl) ?_
      refine am_E.brk rfl (fun hp => ?_) (fun hp => ?_)
      · have h := (if_pos hp).symm.trans h
        refine am_E.go (n := 3) rfl ?_
        obtain ⟨hg, h⟩ := am_ifI h
        refine am_E.grd rfl hg ?_
        refine am_E.go (n := 1) rfl ?_
        refine am_E.brk rfl (fun hp => ?_) (fun hp => ?_)
        · have h := (if_pos hp).symm.trans h
          refine am_E.go (n := 0) rfl ?_
          cases h
          exact am_E.ret rfl ⟨rfl, rfl⟩
        · have h := (if_neg hp).symm.trans h
          refine am_E.go (n := 1) rfl ?_
          cases h
          exact am_E.ret rfl ⟨rfl, rfl⟩
      · have h := (if_neg hp).symm.trans h
        refine am_E.go (n := 1) rfl ?_
        obtain ⟨q2, hq, h⟩ := am_bindI h
        obtain ⟨q2_1, q2_2, q2_3⟩ := q2
        refine am_E.callF rfl (by decide) (axX8_no hq) ?_
        cases h
        exact am_E.ret rfl ⟨rfl, rfl⟩
def DX8_mayLay (I : Nat → Nat → Int32) (a0 : Int32) : Option Int32 :=
  if ¬ (a0 < 0 ∨ 24 ≤ (a0).toNatClampNeg) then
    if ¬ (I 6 (a0).toNatClampNeg) = (-1 : Int32) then
      some ((0 : Int32))
    else
      if (24 : Int32) ≤ (a0 + (4 : Int32)) then
        some ((1 : Int32))
      else
        if ¬ ((a0 + (4 : Int32)) < 0 ∨ 24 ≤ ((a0 + (4 : Int32))).toNatClampNeg) then
          if ¬ (I 6 ((a0 + (4 : Int32))).toNatClampNeg) = (-1 : Int32) then
            some ((1 : Int32))
          else
            if ¬ ((a0 + (4 : Int32)) < 0 ∨ 24 ≤ ((a0 + (4 : Int32))).toNatClampNeg) then
              if ¬ (I 5 ((a0 + (4 : Int32))).toNatClampNeg) = (-1 : Int32) then
                some ((0 : Int32))
              else
                some ((1 : Int32))
            else none
        else none
  else none
set_option maxHeartbeats 4000000 in
set_option maxRecDepth 100000 in
theorem axX8_mayLay {I : Nat → Nat → Int32} {J : Nat → Nat → Int64} {a0 : Int32} {r : Int32} (h : DX8_mayLay I a0 = some r) : am_F 0 nX8_mayLay [.ref 0, .int a0] (TM, I, J, RM) (some (.int r)) (TM, I, J, RM) := by
  unfold DX8_mayLay at h
  unfold am_F
  refine am_E.go (n := 2) rfl ?_
  obtain ⟨hg, h⟩ := am_ifI h
  refine am_E.grd rfl hg ?_
  refine am_E.go (n := 0) rfl ?_
  refine am_E.brk rfl (fun hp => ?_) (fun hp => ?_)
  · have h := (if_pos hp).symm.trans h
    refine am_E.go (n := 0) rfl ?_
    cases h
    first | exact am_E.ret rfl ⟨rfl, rfl⟩ | exact am_E.retG rfl (by decide) ⟨rfl, rfl⟩
  · have h := (if_neg hp).symm.trans h
    refine am_E.go (n := 3) rfl ?_
    refine am_E.brk rfl (fun hp => ?_) (fun hp => ?_)
    · have h := (if_pos hp).symm.trans h
      refine am_E.go (n := 1) rfl ?_
      cases h
      first | exact am_E.ret rfl ⟨rfl, rfl⟩ | exact am_E.retG rfl (by decide) ⟨rfl, rfl⟩
    · have h := (if_neg hp).symm.trans h
      refine am_E.go (n := 4) rfl ?_
      obtain ⟨hg, h⟩ := am_ifI h
      refine am_E.grd rfl hg ?_
      refine am_E.go (n := 0) rfl ?_
      refine am_E.brk rfl (fun hp => ?_) (fun hp => ?_)
      · have h := (if_pos hp).symm.trans h
        refine am_E.go (n := 1) rfl ?_
        cases h
        first | exact am_E.ret rfl ⟨rfl, rfl⟩ | exact am_E.retG rfl (by decide) ⟨rfl, rfl⟩
      · have h := (if_neg hp).symm.trans h
        refine am_E.go (n := 4) rfl ?_
        obtain ⟨hg, h⟩ := am_ifI h
        refine am_E.grd rfl hg ?_
        refine am_E.go (n := 0) rfl ?_
        refine am_E.brk rfl (fun hp => ?_) (fun hp => ?_)
        · have h := (if_pos hp).symm.trans h
          refine am_E.go (n := 0) rfl ?_
          cases h
          first | exact am_E.ret rfl ⟨rfl, rfl⟩ | exact am_E.retG rfl (by decide) ⟨rfl, rfl⟩
        · have h := (if_neg hp).symm.trans h
          refine am_E.go (n := 1) rfl ?_
          cases h
          first | exact am_E.ret rfl ⟨rfl, rfl⟩ | exact am_E.retG rfl (by decide) ⟨rfl, rfl⟩
def DX8_may (I : Nat → Nat → Int32) (J : Nat → Nat → Int64) (a0 : Int32) : Option (Int32 × (Nat → Nat → Int32) × (Nat → Nat → Int64)) :=
  if (DX8_isCell a0) = 0 then
    (DX8_no I J ((-1 : Int32))).bind fun q1 =>
    some (q1.1, q1.2.1, q1.2.2)
  else
    (DX8_mayLay I a0).bind fun q2 =>
    if q2 = 0 then
      some ((0 : Int32), I, J)
    else
      some ((1 : Int32), I, J)
set_option maxHeartbeats 4000000 in
set_option maxRecDepth 100000 in
theorem axX8_may {I : Nat → Nat → Int32} {J : Nat → Nat → Int64} {a0 : Int32} {r : Int32} {I' : Nat → Nat → Int32} {J' : Nat → Nat → Int64} (h : DX8_may I J a0 = some (r, I', J')) : am_F 1 nX8_may [.ref 0, .int a0] (TM, I, J, RM) (some (.int r)) (TM, I', J', RM) := by
  unfold DX8_may at h
  unfold am_F
  refine am_E.go (n := 1) rfl ?_
  refine am_E.callF rfl (by decide) (axX8_isCell rfl) ?_
  refine am_E.brk rfl (fun hp => ?_) (fun hp => ?_)
  · have h := (if_pos hp).symm.trans h
    refine am_E.go (n := 1) rfl ?_
    obtain ⟨q1, hq, h⟩ := am_bindI h
    obtain ⟨q1_1, q1_2, q1_3⟩ := q1
    refine am_E.callF rfl (by decide) (axX8_no hq) ?_
    cases h
    exact am_E.ret rfl ⟨rfl, rfl⟩
  · have h := (if_neg hp).symm.trans h
    refine am_E.go (n := 1) rfl ?_
    obtain ⟨q2, hq, h⟩ := am_bindI h
    refine am_E.callF rfl (by decide) (axX8_mayLay hq) ?_
    refine am_E.brk rfl (fun hp => ?_) (fun hp => ?_)
    · have h := (if_pos hp).symm.trans h
      refine am_E.go (n := 1) rfl ?_
      cases h
      exact am_E.ret rfl ⟨rfl, rfl⟩
    · have h := (if_neg hp).symm.trans h
      refine am_E.go (n := 1) rfl ?_
      cases h
      exact am_E.ret rfl ⟨rfl, rfl⟩
def DX8_laidMany (I : Nat → Nat → Int32) : Option Int32 :=
  (DX8_count I 6 ((-1 : Int32))).bind fun q1 =>
  some (((24 : Int32) - q1))
set_option maxHeartbeats 4000000 in
set_option maxRecDepth 100000 in
theorem axX8_laidMany {I : Nat → Nat → Int32} {J : Nat → Nat → Int64} {r : Int32} (h : DX8_laidMany I = some r) : am_F 1 nX8_laidMany [.ref 0] (TM, I, J, RM) (some (.int r)) (TM, I, J, RM) := by
  unfold DX8_laidMany at h
  unfold am_F
  refine am_E.go (n := 4) rfl ?_
  obtain ⟨q1, hq, h⟩ := am_bindI h
  refine am_E.callF rfl (by decide) (axX8_count (by decide) hq) ?_
  refine am_E.go (n := 0) rfl ?_
  cases h
  exact am_E.ret rfl ⟨rfl, rfl⟩
def DX8_puts (I : Nat → Nat → Int32) (J : Nat → Nat → Int64) (a0 : Int32) (a1 : Int32) : Option (Int32 × (Nat → Nat → Int32) × (Nat → Nat → Int64)) :=
  if ¬ (a0 < 0 ∨ 24 ≤ (a0).toNatClampNeg) then
    if ¬ (a0 < 0 ∨ 24 ≤ (a0).toNatClampNeg) then
      if ¬ (a0 < 0 ∨ 24 ≤ (a0).toNatClampNeg) then
        (some (am_upI ((am_upI ((am_upI I 6 (a0).toNatClampNeg a1)) 8 (a0).toNatClampNeg (0 : Int32))) 9 (a0).toNatClampNeg (0 : Int32))).bind fun I1 =>
        if ¬ (a0 < 0 ∨ 24 ≤ (a0).toNatClampNeg) then
          some ((0 : Int32), (am_upI I1 10 (a0).toNatClampNeg (0 : Int32)), J)
        else none
      else none
    else none
  else none
set_option maxHeartbeats 4000000 in
set_option maxRecDepth 100000 in
theorem axX8_puts {I : Nat → Nat → Int32} {J : Nat → Nat → Int64} {a0 : Int32} {a1 : Int32} {r : Int32} {I' : Nat → Nat → Int32} {J' : Nat → Nat → Int64} (h : DX8_puts I J a0 a1 = some (r, I', J')) : am_F 0 nX8_puts [.ref 0, .int a0, .int a1] (TM, I, J, RM) (none) (TM, I', J', RM) := by
  unfold DX8_puts at h
  unfold am_F
  refine am_E.go (n := 3) rfl ?_
  obtain ⟨hg, h⟩ := am_ifI h
  refine am_E.grd rfl hg ?_
  refine am_E.go (n := 3) rfl ?_
  obtain ⟨hg, h⟩ := am_ifI h
  refine am_E.grd rfl hg ?_
  refine am_E.go (n := 3) rfl ?_
  obtain ⟨hg, h⟩ := am_ifI h
  refine am_E.grd rfl hg ?_
  obtain ⟨I1, hI, h⟩ := am_bindI h
  obtain rfl := Option.some.inj hI
  refine am_E.go (n := 3) rfl ?_
  obtain ⟨hg, h⟩ := am_ifI h
  refine am_E.grd rfl hg ?_
  cases h
  exact am_E.ret rfl ⟨rfl, rfl⟩
def DX8_lay (I : Nat → Nat → Int32) (J : Nat → Nat → Int64) (a0 : Int32) (a1 : Int32) : Option (Int32 × (Nat → Nat → Int32) × (Nat → Nat → Int64)) :=
  if (DX8_isCell a0) = 0 then
    (DX8_no I J ((-1 : Int32))).bind fun q1 =>
    some (q1.1, q1.2.1, q1.2.2)
  else
    if ¬ (DX8_isStuff I a1) = 0 then
      (DX8_mayLay I a0).bind fun q2 =>
      if ¬ q2 = 0 then
        (DX8_puts I J a0 a1).bind fun q3 =>
        (DX8_laidMany q3.2.1).bind fun q4 =>
        some (q4, q3.2.1, q3.2.2)
      else
        (DX8_no I J ((-6 : Int32))).bind fun q5 =>
        some (q5.1, q5.2.1, q5.2.2)
    else
      (DX8_no I J ((-1 : Int32))).bind fun q6 =>
      some (q6.1, q6.2.1, q6.2.2)
set_option maxHeartbeats 4000000 in
set_option maxRecDepth 100000 in
theorem axX8_lay {I : Nat → Nat → Int32} {J : Nat → Nat → Int64} {a0 : Int32} {a1 : Int32} {r : Int32} {I' : Nat → Nat → Int32} {J' : Nat → Nat → Int64} (h : DX8_lay I J a0 a1 = some (r, I', J')) : am_F 2 nX8_lay [.ref 0, .int a0, .int a1] (TM, I, J, RM) (some (.int r)) (TM, I', J', RM) := by
  unfold DX8_lay at h
  unfold am_F
  refine am_E.go (n := 1) rfl ?_
  refine am_E.callF rfl (by decide) (axX8_isCell rfl) ?_
  refine am_E.brk rfl (fun hp => ?_) (fun hp => ?_)
  · have h := (if_pos hp).symm.trans h
    refine am_E.go (n := 1) rfl ?_
    obtain ⟨q1, hq, h⟩ := am_bindI h
    obtain ⟨q1_1, q1_2, q1_3⟩ := q1
    refine am_E.callF rfl (by decide) (axX8_no hq) ?_
    cases h
    exact am_E.ret rfl ⟨rfl, rfl⟩
  · have h := (if_neg hp).symm.trans h
    refine am_E.go (n := 1) rfl ?_
    refine am_E.callF rfl (by decide) (axX8_isStuff rfl) ?_
    refine am_E.brk rfl (fun hp => ?_) (fun hp => ?_)
    · have h := (if_pos hp).symm.trans h
      refine am_E.go (n := 1) rfl ?_
      obtain ⟨q2, hq, h⟩ := am_bindI h
      refine am_E.callF rfl (by decide) (axX8_mayLay hq) ?_
      refine am_E.brk rfl (fun hp => ?_) (fun hp => ?_)
      · have h := (if_pos hp).symm.trans h
        refine am_E.go (n := 2) rfl ?_
        obtain ⟨q3, hq, h⟩ := am_bindI h
        obtain ⟨q3_1, q3_2, q3_3⟩ := q3
        refine am_E.callF rfl (by decide) (axX8_puts hq) ?_
        refine am_E.go (n := 0) rfl ?_
        obtain ⟨q4, hq, h⟩ := am_bindI h
        refine am_E.callF rfl (by decide) (axX8_laidMany hq) ?_
        cases h
        exact am_E.ret rfl ⟨rfl, rfl⟩
      · have h := (if_neg hp).symm.trans h
        refine am_E.go (n := 1) rfl ?_
        obtain ⟨q5, hq, h⟩ := am_bindI h
        obtain ⟨q5_1, q5_2, q5_3⟩ := q5
        refine am_E.callF rfl (by decide) (axX8_no hq) ?_
        cases h
        exact am_E.ret rfl ⟨rfl, rfl⟩
    · have h := (if_neg hp).symm.trans h
      refine am_E.go (n := 1) rfl ?_
      obtain ⟨q6, hq, h⟩ := am_bindI h
      obtain ⟨q6_1, q6_2, q6_3⟩ := q6
      refine am_E.callF rfl (by decide) (axX8_no hq) ?_
      cases h
      exact am_E.ret rfl ⟨rfl, rfl⟩
def DX8_strip (I : Nat → Nat → Int32) (J : Nat → Nat → Int64) (a0 : Int32) : Option (Int32 × (Nat → Nat → Int32) × (Nat → Nat → Int64)) :=
  if ¬ (DX8_isCell a0) = 0 then
    if ¬ (a0 < 0 ∨ 24 ≤ (a0).toNatClampNeg) then
      if ¬ (I 6 (a0).toNatClampNeg) = (-1 : Int32) then
        if ¬ (a0 < 0 ∨ 24 ≤ (a0).toNatClampNeg) then
          (DX8_puts I J a0 ((-1 : Int32))).bind fun q1 =>
          some ((I 6 (a0).toNatClampNeg), q1.2.1, q1.2.2)
        else none
      else
        (DX8_no I J ((-6 : Int32))).bind fun q2 =>
        some (q2.1, q2.2.1, q2.2.2)
    else none
  else
    (DX8_no I J ((-1 : Int32))).bind fun q3 =>
    some (q3.1, q3.2.1, q3.2.2)
set_option maxHeartbeats 4000000 in
set_option maxRecDepth 100000 in
theorem axX8_strip {I : Nat → Nat → Int32} {J : Nat → Nat → Int64} {a0 : Int32} {r : Int32} {I' : Nat → Nat → Int32} {J' : Nat → Nat → Int64} (h : DX8_strip I J a0 = some (r, I', J')) : am_F 1 nX8_strip [.ref 0, .int a0, .retAddr 0] (TM, I, J, RM) (some (.int r)) (TM, I', J', RM) := by
  unfold DX8_strip at h
  unfold am_F
  refine am_E.go (n := 1) rfl ?_
  refine am_E.callF rfl (by decide) (axX8_isCell rfl) ?_
  refine am_E.brk rfl (fun hp => ?_) (fun hp => ?_)
  · have h := (if_pos hp).symm.trans h
    refine am_E.go (n := 2) rfl ?_
    obtain ⟨hg, h⟩ := am_ifI h
    refine am_E.grd rfl hg ?_
    refine am_E.go (n := 0) rfl ?_
    refine am_E.brk rfl (fun hp => ?_) (fun hp => ?_)
    · have h := (if_pos hp).symm.trans h
      refine am_E.go (n := 2) rfl ?_
      obtain ⟨hg, h⟩ := am_ifI h
      refine am_E.grd rfl hg ?_
      refine am_E.go (n := 3) rfl ?_
      obtain ⟨q1, hq, h⟩ := am_bindI h
      obtain ⟨q1_1, q1_2, q1_3⟩ := q1
      refine am_E.callF rfl (by decide) (axX8_puts hq) ?_
      refine am_E.go (n := 0) rfl ?_
      cases h
      exact am_E.ret rfl ⟨rfl, rfl⟩
    · have h := (if_neg hp).symm.trans h
      refine am_E.go (n := 1) rfl ?_
      obtain ⟨q2, hq, h⟩ := am_bindI h
      obtain ⟨q2_1, q2_2, q2_3⟩ := q2
      refine am_E.callF rfl (by decide) (axX8_no hq) ?_
      cases h
      exact am_E.ret rfl ⟨rfl, rfl⟩
  · have h := (if_neg hp).symm.trans h
    refine am_E.go (n := 1) rfl ?_
    obtain ⟨q3, hq, h⟩ := am_bindI h
    obtain ⟨q3_1, q3_2, q3_3⟩ := q3
    refine am_E.callF rfl (by decide) (axX8_no hq) ?_
    cases h
    exact am_E.ret rfl ⟨rfl, rfl⟩
def LX8_spray : Nat → (Nat → Nat → Int32) → (Nat → Nat → Int64) → Int32 → Option (Int32 × (Nat → Nat → Int32) × (Nat → Nat → Int64))
  | 0, _, _, _ => none
  | n + 1, I, J, x1 =>
    if (24 : Int32) ≤ x1 then
      some ((I 0 2), I, J)
    else
      if ¬ (x1 < 0 ∨ 24 ≤ (x1).toNatClampNeg) then
        if (I 6 (x1).toNatClampNeg) = (-1 : Int32) then
          LX8_spray n I J ((x1 + (1 : Int32)))
        else
          if ¬ (x1 < 0 ∨ 24 ≤ (x1).toNatClampNeg) then
            if ¬ (x1 < 0 ∨ 24 ≤ (x1).toNatClampNeg) then
              LX8_spray n ((am_upI I 10 (x1).toNatClampNeg ((I 10 (x1).toNatClampNeg) + (1 : Int32)))) J ((x1 + (1 : Int32)))
            else none
          else none
      else none
def DX8_spray (I : Nat → Nat → Int32) (J : Nat → Nat → Int64) : Option (Int32 × (Nat → Nat → Int32) × (Nat → Nat → Int64)) :=
  if (I 0 2) ≤ (89 : Int32) then
    LX8_spray am_FU ((am_upI I 0 2 ((I 0 2) + (10 : Int32)))) J ((0 : Int32))
  else
    LX8_spray am_FU ((am_upI I 0 2 (99 : Int32))) J ((0 : Int32))
set_option maxHeartbeats 4000000 in
set_option maxRecDepth 100000 in
theorem alX8_spray : ∀ (n : Nat), ∀ {I : Nat → Nat → Int32} {J : Nat → Nat → Int64} {x1 : Int32} {I' : Nat → Nat → Int32} {J' : Nat → Nat → Int64} {r : Int32}, LX8_spray n I J x1 = some (r, I', J') → am_E 0 nX8_spray (27, [.ref 0, .int x1], [], (TM, I, J, RM)) (fun v M' => v = some (.int r) ∧ M' = (TM, I', J', RM)) := by
  intro n
  induction n with
  | zero => intros; contradiction
  | succ n ih =>
    intro I J x1 I' J' r h
    simp only [LX8_spray] at h
    refine am_E.go (n := 1) rfl ?_
    refine am_E.brk rfl (fun hp => ?_) (fun hp => ?_)
    · have h := (if_pos hp).symm.trans h
      refine am_E.go (n := 1) rfl ?_
      cases h
      exact am_E.ret rfl ⟨rfl, rfl⟩
    · have h := (if_neg hp).symm.trans h
      refine am_E.go (n := 2) rfl ?_
      obtain ⟨hg, h⟩ := am_ifI h
      refine am_E.grd rfl hg ?_
      refine am_E.go (n := 0) rfl ?_
      refine am_E.brk rfl (fun hp => ?_) (fun hp => ?_)
      · have h := (if_pos hp).symm.trans h
        refine am_E.go (n := 1) rfl ?_
        exact ih h
      · have h := (if_neg hp).symm.trans h
        refine am_E.go (n := 3) rfl ?_
        obtain ⟨hg, h⟩ := am_ifI h
        refine am_E.grd rfl hg ?_
        refine am_E.go (n := 1) rfl ?_
        obtain ⟨hg, h⟩ := am_ifI h
        refine am_E.grd rfl hg ?_
        refine am_E.go (n := 1) rfl ?_
        exact ih h
set_option maxHeartbeats 4000000 in
set_option maxRecDepth 100000 in
theorem axX8_spray {I : Nat → Nat → Int32} {J : Nat → Nat → Int64} {r : Int32} {I' : Nat → Nat → Int32} {J' : Nat → Nat → Int64} (h : DX8_spray I J = some (r, I', J')) : am_F 0 nX8_spray [.ref 0, .retAddr 0] (TM, I, J, RM) (some (.int r)) (TM, I', J', RM) := by
  unfold DX8_spray at h
  unfold am_F
  refine am_E.go (n := 3) rfl ?_
  refine am_E.brk rfl (fun hp => ?_) (fun hp => ?_)
  · have h := (if_pos hp).symm.trans h
    refine am_E.go (n := 6) rfl ?_
    exact (alX8_spray am_FU) h
  · have h := (if_neg hp).symm.trans h
    refine am_E.go (n := 4) rfl ?_
    exact (alX8_spray am_FU) h
def DX8_side (I : Nat → Nat → Int32) (J : Nat → Nat → Int64) (a0 : Int32) : Option (Int32 × (Nat → Nat → Int32) × (Nat → Nat → Int64)) :=
  if a0 < 0 then
    (DX8_no I J ((-6 : Int32))).bind fun q1 =>
    some (q1.1, q1.2.1, q1.2.2)
  else
    if a0 ≤ (2 : Int32) then
      some ((I 0 1), (am_upI I 0 1 a0), J)
    else
      (DX8_no I J ((-6 : Int32))).bind fun q2 =>
      some (q2.1, q2.2.1, q2.2.2)
set_option maxHeartbeats 4000000 in
set_option maxRecDepth 100000 in
theorem axX8_side {I : Nat → Nat → Int32} {J : Nat → Nat → Int64} {a0 : Int32} {r : Int32} {I' : Nat → Nat → Int32} {J' : Nat → Nat → Int64} (h : DX8_side I J a0 = some (r, I', J')) : am_F 1 nX8_side [.ref 0, .int a0, .retAddr 0] (TM, I, J, RM) (some (.int r)) (TM, I', J', RM) := by
  unfold DX8_side at h
  unfold am_F
  refine am_E.go (n := 0) rfl ?_
  refine am_E.brk rfl (fun hp => ?_) (fun hp => ?_)
  · have h := (if_pos hp).symm.trans h
    refine am_E.go (n := 1) rfl ?_
    obtain ⟨q1, hq, h⟩ := am_bindI h
    obtain ⟨q1_1, q1_2, q1_3⟩ := q1
    refine am_E.callF rfl (by decide) (axX8_no hq) ?_
    cases h
    exact am_E.ret rfl ⟨rfl, rfl⟩
  · have h := (if_neg hp).symm.trans h
    refine am_E.go (n := 1) rfl ?_
    refine am_E.brk rfl (fun hp => ?_) (fun hp => ?_)
    · have h := (if_pos hp).symm.trans h
      refine am_E.go (n := 6) rfl ?_
      cases h
      exact am_E.ret rfl ⟨rfl, rfl⟩
    · have h := (if_neg hp).symm.trans h
      refine am_E.go (n := 1) rfl ?_
      obtain ⟨q2, hq, h⟩ := am_bindI h
      obtain ⟨q2_1, q2_2, q2_3⟩ := q2
      refine am_E.callF rfl (by decide) (axX8_no hq) ?_
      cases h
      exact am_E.ret rfl ⟨rfl, rfl⟩
def DX8_inSun (I : Nat → Nat → Int32) (a0 : Int32) : Option Int32 :=
  if (I 0 1) = 0 then
    some ((0 : Int32))
  else
    if ¬ (4 : Int32) = 0 then
      if ¬ (2 : Int32) = 0 then
        if ¬ ((a0 - a0 / (4 : Int32) * (4 : Int32)) / (2 : Int32)) = ((I 0 1) - (1 : Int32)) then
          some ((0 : Int32))
        else
          some ((1 : Int32))
      else none
    else none
set_option maxHeartbeats 4000000 in
set_option maxRecDepth 100000 in
theorem axX8_inSun {I : Nat → Nat → Int32} {J : Nat → Nat → Int64} {a0 : Int32} {r : Int32} (h : DX8_inSun I a0 = some r) : am_F 0 nX8_inSun [.ref 0, .int a0] (TM, I, J, RM) (some (.int r)) (TM, I, J, RM) := by
  unfold DX8_inSun at h
  unfold am_F
  refine am_E.go (n := 1) rfl ?_
  refine am_E.brk rfl (fun hp => ?_) (fun hp => ?_)
  · have h := (if_pos hp).symm.trans h
    refine am_E.go (n := 0) rfl ?_
    cases h
    first | exact am_E.ret rfl ⟨rfl, rfl⟩ | exact am_E.retG rfl (by decide) ⟨rfl, rfl⟩
  · have h := (if_neg hp).symm.trans h
    refine am_E.go (n := 1) rfl ?_
    obtain ⟨hg, h⟩ := am_ifI h
    refine am_E.grd rfl hg ?_
    refine am_E.go (n := 0) rfl ?_
    obtain ⟨hg, h⟩ := am_ifI h
    refine am_E.grd rfl hg ?_
    refine am_E.go (n := 3) rfl ?_
    refine am_E.brk rfl (fun hp => ?_) (fun hp => ?_)
    · have h := (if_pos hp).symm.trans h
      refine am_E.go (n := 0) rfl ?_
      cases h
      first | exact am_E.ret rfl ⟨rfl, rfl⟩ | exact am_E.retG rfl (by decide) ⟨rfl, rfl⟩
    · have h := (if_neg hp).symm.trans h
      refine am_E.go (n := 1) rfl ?_
      cases h
      first | exact am_E.ret rfl ⟨rfl, rfl⟩ | exact am_E.retG rfl (by decide) ⟨rfl, rfl⟩
def DX8_dries (I : Nat → Nat → Int32) (a0 : Int32) : Int32 :=
  if ¬ (I 0 1) = 0 then
    if 0 ≤ (a0 - (2 : Int32)) then
      (a0 - (2 : Int32))
    else
      (0 : Int32)
  else
    if 0 ≤ (a0 - (1 : Int32)) then
      (a0 - (1 : Int32))
    else
      (0 : Int32)
set_option maxHeartbeats 4000000 in
set_option maxRecDepth 100000 in
theorem axX8_dries {I : Nat → Nat → Int32} {J : Nat → Nat → Int64} {a0 : Int32} {r : Int32} (h : DX8_dries I a0 = r) : am_F 0 nX8_dries [.ref 0, .int a0, .retAddr 0] (TM, I, J, RM) (some (.int r)) (TM, I, J, RM) := by
  unfold DX8_dries at h
  unfold am_F
  refine am_E.go (n := 2) rfl ?_
  refine am_E.brk rfl (fun hp => ?_) (fun hp => ?_)
  · have h := (if_pos hp).symm.trans h
    refine am_E.go (n := 3) rfl ?_
    refine am_E.brk rfl (fun hp => ?_) (fun hp => ?_)
    · have h := (if_pos hp).symm.trans h
      refine am_E.go (n := 0) rfl ?_
      subst h
      exact am_E.ret rfl ⟨rfl, rfl⟩
    · have h := (if_neg hp).symm.trans h
      refine am_E.go (n := 1) rfl ?_
      subst h
      exact am_E.ret rfl ⟨rfl, rfl⟩
  · have h := (if_neg hp).symm.trans h
    refine am_E.go (n := 4) rfl ?_
    refine am_E.brk rfl (fun hp => ?_) (fun hp => ?_)
    · have h := (if_pos hp).symm.trans h
      refine am_E.go (n := 0) rfl ?_
      subst h
      exact am_E.ret rfl ⟨rfl, rfl⟩
    · have h := (if_neg hp).symm.trans h
      refine am_E.go (n := 1) rfl ?_
      subst h
      exact am_E.ret rfl ⟨rfl, rfl⟩
def LX8_goes : Nat → Nat → (Nat → Nat → Int32) → (Nat → Nat → Int64) → Int32 → Int32 → Int32 → Option (Int32 × (Nat → Nat → Int32) × (Nat → Nat → Int64))
  | 0, _, _, _, _, _, _ => none
  | n + 1, 0, I, J, x1, x2, x3 =>
    if x1 ≤ x2 then
      some ((0 : Int32), I, J)
    else
      LX8_goes n 1 I J x1 x2 ((0 : Int32))
  | n + 1, _, I, J, x1, x2, x3 =>
    if (24 : Int32) ≤ x3 then
      if ¬ (((am_upI I 0 2 (DX8_dries I ((I 0 2))))) 0 2) = 0 then
        (some (am_upI ((am_upI I 0 2 (DX8_dries I ((I 0 2))))) 0 3 ((((am_upI I 0 2 (DX8_dries I ((I 0 2))))) 0 3) + (1 : Int32)))).bind fun I4 =>
        LX8_goes n 0 I4 J x1 ((x2 + (1 : Int32))) 0
      else
        (some (am_upI ((am_upI I 0 2 (DX8_dries I ((I 0 2))))) 0 4 ((((am_upI I 0 2 (DX8_dries I ((I 0 2))))) 0 4) + (1 : Int32)))).bind fun I5 =>
        LX8_goes n 0 ((am_upI I5 0 3 ((I5 0 3) + (1 : Int32)))) J x1 ((x2 + (1 : Int32))) 0
    else
      if ¬ (x3 < 0 ∨ 24 ≤ (x3).toNatClampNeg) then
        if ¬ (I 6 (x3).toNatClampNeg) = (-1 : Int32) then
          (DX8_inSun I x3).bind fun q6 =>
          if q6 = 0 then
            if ¬ (x3 < 0 ∨ 24 ≤ (x3).toNatClampNeg) then
              if ¬ (x3 < 0 ∨ 24 ≤ (x3).toNatClampNeg) then
                LX8_goes n 1 ((am_upI I 9 (x3).toNatClampNeg ((I 9 (x3).toNatClampNeg) + (1 : Int32)))) J x1 x2 ((x3 + (1 : Int32)))
              else none
            else none
          else
            if ¬ (x3 < 0 ∨ 24 ≤ (x3).toNatClampNeg) then
              if ¬ (x3 < 0 ∨ 24 ≤ (x3).toNatClampNeg) then
                LX8_goes n 1 ((am_upI I 8 (x3).toNatClampNeg ((I 8 (x3).toNatClampNeg) + (1 : Int32)))) J x1 x2 ((x3 + (1 : Int32)))
              else none
            else none
        else
          LX8_goes n 1 I J x1 x2 ((x3 + (1 : Int32)))
      else none
def DX8_goes (I : Nat → Nat → Int32) (J : Nat → Nat → Int64) (a0 : Int32) : Option (Int32 × (Nat → Nat → Int32) × (Nat → Nat → Int64)) :=
  LX8_goes am_FU 0 I J a0 ((0 : Int32)) 0
set_option maxHeartbeats 4000000 in
set_option maxRecDepth 100000 in
theorem alX8_goes : ∀ (n : Nat), (∀ {I : Nat → Nat → Int32} {J : Nat → Nat → Int64} {x1 : Int32} {x2 : Int32} {x3 : Int32} {I' : Nat → Nat → Int32} {J' : Nat → Nat → Int64} {r : Int32}, LX8_goes n 0 I J x1 x2 x3 = some (r, I', J') → am_E 1 nX8_goes (2, [.ref 0, .int x1, .int x2, .retAddr 0], [], (TM, I, J, RM)) (fun v M' => v = none ∧ M' = (TM, I', J', RM))) ∧
    (∀ {I : Nat → Nat → Int32} {J : Nat → Nat → Int64} {x1 : Int32} {x2 : Int32} {x3 : Int32} {I' : Nat → Nat → Int32} {J' : Nat → Nat → Int64} {r : Int32}, LX8_goes n 1 I J x1 x2 x3 = some (r, I', J') → am_E 1 nX8_goes (9, [.ref 0, .int x1, .int x2, .int x3], [], (TM, I, J, RM)) (fun v M' => v = none ∧ M' = (TM, I', J', RM))) := by
  intro n
  induction n with
  | zero => exact ⟨by intros; contradiction, by intros; contradiction⟩
  | succ n ih =>
    refine ⟨?_, ?_⟩
    · intro I J x1 x2 x3 I' J' r h
      simp only [LX8_goes] at h
      refine am_E.go (n := 1) rfl ?_
      refine am_E.brk rfl (fun hp => ?_) (fun hp => ?_)
      · have h := (if_pos hp).symm.trans h
        cases h
        exact am_E.ret rfl ⟨rfl, rfl⟩
      · have h := (if_neg hp).symm.trans h
        refine am_E.go (n := 1) rfl ?_
        exact ih.2 h
    · intro I J x1 x2 x3 I' J' r h
      simp only [LX8_goes] at h
      refine am_E.go (n := 1) rfl ?_
      refine am_E.brk rfl (fun hp => ?_) (fun hp => ?_)
      · have h := (if_pos hp).symm.trans h
        refine am_E.go (n := 3) rfl ?_
        refine am_E.callF rfl (by decide) (axX8_dries rfl) ?_
        refine am_E.go (n := 2) rfl ?_
        refine am_E.brk rfl (fun hp => ?_) (fun hp => ?_)
        · have h := (if_pos hp).symm.trans h
          refine am_E.go (n := 7) rfl ?_
          obtain ⟨I4, hI, h⟩ := am_bindI h
          obtain rfl := Option.some.inj hI
          refine am_E.less (ls0 := [_, _, _, .retAddr 0]) ?_ ⟨Or.inl rfl, Or.inl rfl, Or.inl rfl, Or.inr ⟨rfl, rfl⟩, trivial⟩
          exact ih.1 h
        · have h := (if_neg hp).symm.trans h
          refine am_E.go (n := 13) rfl ?_
          obtain ⟨I5, hI, h⟩ := am_bindI h
          obtain rfl := Option.some.inj hI
          refine am_E.less (ls0 := [_, _, _, .retAddr 0]) ?_ ⟨Or.inl rfl, Or.inl rfl, Or.inl rfl, Or.inr ⟨rfl, rfl⟩, trivial⟩
          exact ih.1 h
      · have h := (if_neg hp).symm.trans h
        refine am_E.go (n := 2) rfl ?_
        obtain ⟨hg, h⟩ := am_ifI h
        refine am_E.grd rfl hg ?_
        refine am_E.go (n := 0) rfl ?_
        refine am_E.brk rfl (fun hp => ?_) (fun hp => ?_)
        · have h := (if_pos hp).symm.trans h
          refine am_E.go (n := 1) rfl ?_
          obtain ⟨q6, hq, h⟩ := am_bindI h
          refine am_E.callF rfl (by decide) (axX8_inSun hq) ?_
          refine am_E.brk rfl (fun hp => ?_) (fun hp => ?_)
          · have h := (if_pos hp).symm.trans h
            refine am_E.go (n := 3) rfl ?_
            obtain ⟨hg, h⟩ := am_ifI h
            refine am_E.grd rfl hg ?_
            refine am_E.go (n := 1) rfl ?_
            obtain ⟨hg, h⟩ := am_ifI h
            refine am_E.grd rfl hg ?_
            refine am_E.go (n := 1) rfl ?_
            exact ih.2 h
          · have h := (if_neg hp).symm.trans h
            refine am_E.go (n := 3) rfl ?_
            obtain ⟨hg, h⟩ := am_ifI h
            refine am_E.grd rfl hg ?_
            refine am_E.go (n := 1) rfl ?_
            obtain ⟨hg, h⟩ := am_ifI h
            refine am_E.grd rfl hg ?_
            refine am_E.go (n := 2) rfl ?_
            exact ih.2 h
        · have h := (if_neg hp).symm.trans h
          refine am_E.go (n := 2) rfl ?_
          exact ih.2 h
set_option maxHeartbeats 4000000 in
set_option maxRecDepth 100000 in
theorem axX8_goes {I : Nat → Nat → Int32} {J : Nat → Nat → Int64} {a0 : Int32} {r : Int32} {I' : Nat → Nat → Int32} {J' : Nat → Nat → Int64} (h : DX8_goes I J a0 = some (r, I', J')) : am_F 1 nX8_goes [.ref 0, .int a0, .retAddr 0, .retAddr 0] (TM, I, J, RM) (none) (TM, I', J', RM) := by
  unfold DX8_goes at h
  unfold am_F
  refine am_E.go (n := 1) rfl ?_
  exact (alX8_goes am_FU).1 h
def DX8_isHour (a0 : Int32) : Int32 :=
  if a0 < 0 then
    (0 : Int32)
  else
    if (240 : Int32) < a0 then
      (0 : Int32)
    else
      (1 : Int32)
set_option maxHeartbeats 4000000 in
set_option maxRecDepth 100000 in
theorem axX8_isHour {I : Nat → Nat → Int32} {J : Nat → Nat → Int64} {a0 : Int32} {r : Int32} (h : DX8_isHour a0 = r) : am_F 0 nX8_isHour [.ref 0, .int a0] (TM, I, J, RM) (some (.int r)) (TM, I, J, RM) := by
  unfold DX8_isHour at h
  unfold am_F
  refine am_E.go (n := 0) rfl ?_
  refine am_E.brk rfl (fun hp => ?_) (fun hp => ?_)
  · have h := (if_pos hp).symm.trans h
    refine am_E.go (n := 0) rfl ?_
    subst h
    first | exact am_E.ret rfl ⟨rfl, rfl⟩ | exact am_E.retG rfl (by decide) ⟨rfl, rfl⟩
  · have h := (if_neg hp).symm.trans h
    refine am_E.go (n := 1) rfl ?_
    refine am_E.brk rfl (fun hp => ?_) (fun hp => ?_)
    · have h := (if_pos hp).symm.trans h
      refine am_E.go (n := 0) rfl ?_
      subst h
      first | exact am_E.ret rfl ⟨rfl, rfl⟩ | exact am_E.retG rfl (by decide) ⟨rfl, rfl⟩
    · have h := (if_neg hp).symm.trans h
      refine am_E.go (n := 1) rfl ?_
      subst h
      first | exact am_E.ret rfl ⟨rfl, rfl⟩ | exact am_E.retG rfl (by decide) ⟨rfl, rfl⟩
def DX8_hours (I : Nat → Nat → Int32) (J : Nat → Nat → Int64) (a0 : Int32) : Option (Int32 × (Nat → Nat → Int32) × (Nat → Nat → Int64)) :=
  if a0 < (1 : Int32) then
    (DX8_no I J ((-6 : Int32))).bind fun q1 =>
    some (q1.1, q1.2.1, q1.2.2)
  else
    if a0 ≤ (240 : Int32) then
      (DX8_goes I J a0).bind fun q2 =>
      some ((q2.2.1 0 3), q2.2.1, q2.2.2)
    else
      (DX8_no I J ((-6 : Int32))).bind fun q3 =>
      some (q3.1, q3.2.1, q3.2.2)
set_option maxHeartbeats 4000000 in
set_option maxRecDepth 100000 in
theorem axX8_hours {I : Nat → Nat → Int32} {J : Nat → Nat → Int64} {a0 : Int32} {r : Int32} {I' : Nat → Nat → Int32} {J' : Nat → Nat → Int64} (h : DX8_hours I J a0 = some (r, I', J')) : am_F 2 nX8_hours [.ref 0, .int a0] (TM, I, J, RM) (some (.int r)) (TM, I', J', RM) := by
  unfold DX8_hours at h
  unfold am_F
  refine am_E.go (n := 1) rfl ?_
  refine am_E.brk rfl (fun hp => ?_) (fun hp => ?_)
  · have h := (if_pos hp).symm.trans h
    refine am_E.go (n := 1) rfl ?_
    obtain ⟨q1, hq, h⟩ := am_bindI h
    obtain ⟨q1_1, q1_2, q1_3⟩ := q1
    refine am_E.callF rfl (by decide) (axX8_no hq) ?_
    cases h
    exact am_E.ret rfl ⟨rfl, rfl⟩
  · have h := (if_neg hp).symm.trans h
    refine am_E.go (n := 1) rfl ?_
    refine am_E.brk rfl (fun hp => ?_) (fun hp => ?_)
    · have h := (if_pos hp).symm.trans h
      refine am_E.go (n := 1) rfl ?_
      obtain ⟨q2, hq, h⟩ := am_bindI h
      obtain ⟨q2_1, q2_2, q2_3⟩ := q2
      refine am_E.callF rfl (by decide) (axX8_goes hq) ?_
      refine am_E.go (n := 1) rfl ?_
      cases h
      exact am_E.ret rfl ⟨rfl, rfl⟩
    · have h := (if_neg hp).symm.trans h
      refine am_E.go (n := 1) rfl ?_
      obtain ⟨q3, hq, h⟩ := am_bindI h
      obtain ⟨q3_1, q3_2, q3_3⟩ := q3
      refine am_E.callF rfl (by decide) (axX8_no hq) ?_
      cases h
      exact am_E.ret rfl ⟨rfl, rfl⟩
def DX8_faulty (I : Nat → Nat → Int32) (J : Nat → Nat → Int64) (a0 : Int32) : Option (Int32 × (Nat → Nat → Int32) × (Nat → Nat → Int64)) :=
  some ((0 : Int32), (am_upI I 0 29 a0), J)
set_option maxHeartbeats 4000000 in
set_option maxRecDepth 100000 in
theorem axX8_faulty {I : Nat → Nat → Int32} {J : Nat → Nat → Int64} {a0 : Int32} {r : Int32} {I' : Nat → Nat → Int32} {J' : Nat → Nat → Int64} (h : DX8_faulty I J a0 = some (r, I', J')) : am_F 0 nX8_faulty [.ref 0, .int a0] (TM, I, J, RM) (some (.int r)) (TM, I', J', RM) := by
  unfold DX8_faulty at h
  unfold am_F
  refine am_E.go (n := 3) rfl ?_
  cases h
  first | exact am_E.ret rfl ⟨rfl, rfl⟩ | exact am_E.retG rfl (by decide) ⟨rfl, rfl⟩
def LX8_isWordAt : Nat → Nat → (Nat → Nat → Int32) → (Nat → Nat → Int64) → Int32 → Int32 → Int32 → Option Int32
  | 0, _, _, _, _, _, _ => none
  | n + 1, 0, I, J, x1, x2, x3 =>
    if x1 ≤ x3 then
      LX8_isWordAt n 1 I J 0 x2 ((I 0 26))
    else
      if ¬ (x2 < 0 ∨ 43 ≤ (x2).toNatClampNeg) then
        if ¬ (I 17 (x2).toNatClampNeg) = 0 then
          LX8_isWordAt n 0 I J x1 ((x2 + (1 : Int32))) ((x3 + (0 : Int32)))
        else
          LX8_isWordAt n 0 I J x1 ((x2 + (1 : Int32))) ((x3 + (1 : Int32)))
      else none
  | n + 1, _, I, J, x1, x2, x3 =>
    if ¬ (x2 < 0 ∨ 43 ≤ (x2).toNatClampNeg) then
      if (I 17 (x2).toNatClampNeg) ≤ (32 : Int32) then
        if ¬ (x2 < 0 ∨ 43 ≤ (x2).toNatClampNeg) then
          if (32 : Int32) < (I 17 (x2).toNatClampNeg) then
            some ((0 : Int32))
          else
            some ((1 : Int32))
        else none
      else
        if (I 0 27) ≤ x3 then
          if ¬ (x2 < 0 ∨ 43 ≤ (x2).toNatClampNeg) then
            if (32 : Int32) < (I 17 (x2).toNatClampNeg) then
              some ((0 : Int32))
            else
              some ((1 : Int32))
          else none
        else
          if ¬ (((I 0 25) + x3) < 0 ∨ 1280 ≤ (((I 0 25) + x3)).toNatClampNeg) then
            if ¬ (x2 < 0 ∨ 43 ≤ (x2).toNatClampNeg) then
              if ¬ ((J 15 (((I 0 25) + x3)).toNatClampNeg)).toInt32 = (I 17 (x2).toNatClampNeg) then
                if ¬ (x2 < 0 ∨ 43 ≤ (x2).toNatClampNeg) then
                  if (32 : Int32) < (I 17 (x2).toNatClampNeg) then
                    some ((0 : Int32))
                  else
                    some ((1 : Int32))
                else none
              else
                LX8_isWordAt n 1 I J 0 ((x2 + (1 : Int32))) ((x3 + (1 : Int32)))
            else none
          else none
    else none
def DX8_isWordAt (I : Nat → Nat → Int32) (J : Nat → Nat → Int64) (a0 : Int32) : Option Int32 :=
  LX8_isWordAt am_FU 0 I J a0 ((0 : Int32)) ((0 : Int32))
set_option maxHeartbeats 4000000 in
set_option maxRecDepth 100000 in
theorem alX8_isWordAt : ∀ (n : Nat), (∀ {I : Nat → Nat → Int32} {J : Nat → Nat → Int64} {x1 : Int32} {x2 : Int32} {x3 : Int32} {r : Int32}, LX8_isWordAt n 0 I J x1 x2 x3 = some r → am_E 0 nX8_isWordAt (4, [.ref 0, .int x1, .int x2, .int x3], [], (TM, I, J, RM)) (fun v M' => v = some (.int r) ∧ M' = (TM, I, J, RM))) ∧
    (∀ {I : Nat → Nat → Int32} {J : Nat → Nat → Int64} {x1 : Int32} {x2 : Int32} {x3 : Int32} {r : Int32}, LX8_isWordAt n 1 I J x1 x2 x3 = some r → am_E 0 nX8_isWordAt (37, [.ref 0, .retAddr 0, .int x2, .int x3], [], (TM, I, J, RM)) (fun v M' => v = some (.int r) ∧ M' = (TM, I, J, RM))) := by
  intro n
  induction n with
  | zero => exact ⟨by intros; contradiction, by intros; contradiction⟩
  | succ n ih =>
    refine ⟨?_, ?_⟩
    · intro I J x1 x2 x3 r h
      simp only [LX8_isWordAt] at h
      refine am_E.go (n := 1) rfl ?_
      refine am_E.brk rfl (fun hp => ?_) (fun hp => ?_)
      · have h := (if_pos hp).symm.trans h
        refine am_E.go (n := 2) rfl ?_
        refine am_E.less (ls0 := [_, .retAddr 0, _, _]) ?_ ⟨Or.inl rfl, Or.inr ⟨rfl, rfl⟩, Or.inl rfl, Or.inl rfl, trivial⟩
        exact ih.2 h
      · have h := (if_neg hp).symm.trans h
        refine am_E.go (n := 3) rfl ?_
        obtain ⟨hg, h⟩ := am_ifI h
        refine am_E.grd rfl hg ?_
        refine am_E.brk rfl (fun hp => ?_) (fun hp => ?_)
        · have h := (if_pos hp).symm.trans h
          refine am_E.go (n := 4) rfl ?_
          exact ih.1 h
        · have h := (if_neg hp).symm.trans h
          refine am_E.go (n := 5) rfl ?_
          exact ih.1 h
    · intro I J x1 x2 x3 r h
      simp only [LX8_isWordAt] at h
      refine am_E.go (n := 2) rfl ?_
      obtain ⟨hg, h⟩ := am_ifI h
      refine am_E.grd rfl hg ?_
      refine am_E.go (n := 0) rfl ?_
      refine am_E.brk rfl (fun hp => ?_) (fun hp => ?_)
      · have h := (if_pos hp).symm.trans h
        refine am_E.go (n := 2) rfl ?_
        obtain ⟨hg, h⟩ := am_ifI h
        refine am_E.grd rfl hg ?_
        refine am_E.go (n := 0) rfl ?_
        refine am_E.brk rfl (fun hp => ?_) (fun hp => ?_)
        · have h := (if_pos hp).symm.trans h
          refine am_E.go (n := 0) rfl ?_
          cases h
          first | exact am_E.ret rfl ⟨rfl, rfl⟩ | exact am_E.retG rfl (by decide) ⟨rfl, rfl⟩
        · have h := (if_neg hp).symm.trans h
          refine am_E.go (n := 1) rfl ?_
          cases h
          first | exact am_E.ret rfl ⟨rfl, rfl⟩ | exact am_E.retG rfl (by decide) ⟨rfl, rfl⟩
      · have h := (if_neg hp).symm.trans h
        refine am_E.go (n := 2) rfl ?_
        refine am_E.brk rfl (fun hp => ?_) (fun hp => ?_)
        · have h := (if_pos hp).symm.trans h
          refine am_E.go (n := 2) rfl ?_
          obtain ⟨hg, h⟩ := am_ifI h
          refine am_E.grd rfl hg ?_
          refine am_E.go (n := 0) rfl ?_
          refine am_E.brk rfl (fun hp => ?_) (fun hp => ?_)
          · have h := (if_pos hp).symm.trans h
            refine am_E.go (n := 0) rfl ?_
            cases h
            first | exact am_E.ret rfl ⟨rfl, rfl⟩ | exact am_E.retG rfl (by decide) ⟨rfl, rfl⟩
          · have h := (if_neg hp).symm.trans h
            refine am_E.go (n := 1) rfl ?_
            cases h
            first | exact am_E.ret rfl ⟨rfl, rfl⟩ | exact am_E.retG rfl (by decide) ⟨rfl, rfl⟩
        · have h := (if_neg hp).symm.trans h
          refine am_E.go (n := 5) rfl ?_
          obtain ⟨hg, h⟩ := am_ifI h
          refine am_E.grd rfl hg ?_
          refine am_E.go (n := 3) rfl ?_
          obtain ⟨hg, h⟩ := am_ifI h
          refine am_E.grd rfl hg ?_
          refine am_E.brk rfl (fun hp => ?_) (fun hp => ?_)
          · have h := (if_pos hp).symm.trans h
            refine am_E.go (n := 2) rfl ?_
            obtain ⟨hg, h⟩ := am_ifI h
            refine am_E.grd rfl hg ?_
            refine am_E.go (n := 0) rfl ?_
            refine am_E.brk rfl (fun hp => ?_) (fun hp => ?_)
            · have h := (if_pos hp).symm.trans h
              refine am_E.go (n := 0) rfl ?_
              cases h
              first | exact am_E.ret rfl ⟨rfl, rfl⟩ | exact am_E.retG rfl (by decide) ⟨rfl, rfl⟩
            · have h := (if_neg hp).symm.trans h
              refine am_E.go (n := 1) rfl ?_
              cases h
              first | exact am_E.ret rfl ⟨rfl, rfl⟩ | exact am_E.retG rfl (by decide) ⟨rfl, rfl⟩
          · have h := (if_neg hp).symm.trans h
            refine am_E.go (n := 2) rfl ?_
            exact ih.2 h
set_option maxHeartbeats 4000000 in
set_option maxRecDepth 100000 in
theorem axX8_isWordAt {I : Nat → Nat → Int32} {J : Nat → Nat → Int64} {a0 : Int32} {r : Int32} (h : DX8_isWordAt I J a0 = some r) : am_F 0 nX8_isWordAt [.ref 0, .int a0, .retAddr 0, .retAddr 0] (TM, I, J, RM) (some (.int r)) (TM, I, J, RM) := by
  unfold DX8_isWordAt at h
  unfold am_F
  refine am_E.go (n := 3) rfl ?_
  exact (alX8_isWordAt am_FU).1 h
def LX8_word : Nat → Nat → (Nat → Nat → Int32) → (Nat → Nat → Int64) → Int32 → Int32 → Int32 → Int32 → Int32 → Option (Int32 × (Nat → Nat → Int32) × (Nat → Nat → Int64))
  | 0, _, _, _, _, _, _, _, _ => none
  | n + 1, 0, I, J, x1, x2, x3, x4, x5 =>
    if (7 : Int32) ≤ x3 then
      some ((-1 : Int32), (am_upI I 0 29 x2), J)
    else
      LX8_word n 1 I J x1 x2 x3 ((I 0 26)) x1
  | n + 1, 1, I, J, x1, x2, x3, x4, x5 =>
    if ¬ (x5 < 0 ∨ 43 ≤ (x5).toNatClampNeg) then
      if (I 17 (x5).toNatClampNeg) = 0 then
        if ¬ (x5 < 0 ∨ 43 ≤ (x5).toNatClampNeg) then
          if ¬ (I 17 (x5).toNatClampNeg) = 0 then
            if x4 ≤ x2 then
              LX8_word n 2 I J x1 x2 x3 0 0
            else
              LX8_word n 2 I J x1 x4 x3 0 0
          else
            some (x3, (am_upI I 0 26 x4), J)
        else none
      else
        if (I 0 27) ≤ x4 then
          if ¬ (x5 < 0 ∨ 43 ≤ (x5).toNatClampNeg) then
            if ¬ (I 17 (x5).toNatClampNeg) = 0 then
              if x4 ≤ x2 then
                LX8_word n 2 I J x1 x2 x3 0 0
              else
                LX8_word n 2 I J x1 x4 x3 0 0
            else
              some (x3, (am_upI I 0 26 x4), J)
          else none
        else
          if ¬ (((I 0 25) + x4) < 0 ∨ 1280 ≤ (((I 0 25) + x4)).toNatClampNeg) then
            if ¬ (x5 < 0 ∨ 43 ≤ (x5).toNatClampNeg) then
              if ¬ ((J 15 (((I 0 25) + x4)).toNatClampNeg)).toInt32 = (I 17 (x5).toNatClampNeg) then
                if ¬ (x5 < 0 ∨ 43 ≤ (x5).toNatClampNeg) then
                  if ¬ (I 17 (x5).toNatClampNeg) = 0 then
                    if x4 ≤ x2 then
                      LX8_word n 2 I J x1 x2 x3 0 0
                    else
                      LX8_word n 2 I J x1 x4 x3 0 0
                  else
                    some (x3, (am_upI I 0 26 x4), J)
                else none
              else
                LX8_word n 1 I J x1 x2 x3 ((x4 + (1 : Int32))) ((x5 + (1 : Int32)))
            else none
          else none
    else none
  | n + 1, _, I, J, x1, x2, x3, x4, x5 =>
    if ¬ (x1 < 0 ∨ 43 ≤ (x1).toNatClampNeg) then
      if (I 17 (x1).toNatClampNeg) = 0 then
        LX8_word n 0 I J ((x1 + (1 : Int32))) x2 ((x3 + (1 : Int32))) 0 0
      else
        LX8_word n 2 I J ((x1 + (1 : Int32))) x2 x3 0 0
    else none
def DX8_word (I : Nat → Nat → Int32) (J : Nat → Nat → Int64) : Option (Int32 × (Nat → Nat → Int32) × (Nat → Nat → Int64)) :=
  LX8_word am_FU 0 I J ((0 : Int32)) ((I 0 26)) ((0 : Int32)) 0 0
set_option maxHeartbeats 4000000 in
set_option maxRecDepth 100000 in
theorem alX8_word : ∀ (n : Nat), (∀ {I : Nat → Nat → Int32} {J : Nat → Nat → Int64} {x1 : Int32} {x2 : Int32} {x3 : Int32} {x4 : Int32} {x5 : Int32} {I' : Nat → Nat → Int32} {J' : Nat → Nat → Int64} {r : Int32}, LX8_word n 0 I J x1 x2 x3 x4 x5 = some (r, I', J') → am_E 0 nX8_word (9, [.ref 0, .int x1, .int x2, .int x3, .retAddr 0, .retAddr 0], [], (TM, I, J, RM)) (fun v M' => v = some (.int r) ∧ M' = (TM, I', J', RM))) ∧
    (∀ {I : Nat → Nat → Int32} {J : Nat → Nat → Int64} {x1 : Int32} {x2 : Int32} {x3 : Int32} {x4 : Int32} {x5 : Int32} {I' : Nat → Nat → Int32} {J' : Nat → Nat → Int64} {r : Int32}, LX8_word n 1 I J x1 x2 x3 x4 x5 = some (r, I', J') → am_E 0 nX8_word (24, [.ref 0, .int x1, .int x2, .int x3, .int x4, .int x5], [], (TM, I, J, RM)) (fun v M' => v = some (.int r) ∧ M' = (TM, I', J', RM))) ∧
    (∀ {I : Nat → Nat → Int32} {J : Nat → Nat → Int64} {x1 : Int32} {x2 : Int32} {x3 : Int32} {x4 : Int32} {x5 : Int32} {I' : Nat → Nat → Int32} {J' : Nat → Nat → Int64} {r : Int32}, LX8_word n 2 I J x1 x2 x3 x4 x5 = some (r, I', J') → am_E 0 nX8_word (106, [.ref 0, .int x1, .int x2, .int x3, .retAddr 0, .retAddr 0], [], (TM, I, J, RM)) (fun v M' => v = some (.int r) ∧ M' = (TM, I', J', RM))) := by
  intro n
  induction n with
  | zero => exact ⟨by intros; contradiction, by intros; contradiction, by intros; contradiction⟩
  | succ n ih =>
    refine ⟨?_, ?_, ?_⟩
    · intro I J x1 x2 x3 x4 x5 I' J' r h
      simp only [LX8_word] at h
      refine am_E.go (n := 1) rfl ?_
      refine am_E.brk rfl (fun hp => ?_) (fun hp => ?_)
      · have h := (if_pos hp).symm.trans h
        refine am_E.go (n := 3) rfl ?_
        cases h
        exact am_E.ret rfl ⟨rfl, rfl⟩
      · have h := (if_neg hp).symm.trans h
        refine am_E.go (n := 4) rfl ?_
        exact ih.2.1 h
    · intro I J x1 x2 x3 x4 x5 I' J' r h
      simp only [LX8_word] at h
      refine am_E.go (n := 2) rfl ?_
      obtain ⟨hg, h⟩ := am_ifI h
      refine am_E.grd rfl hg ?_
      refine am_E.brk rfl (fun hp => ?_) (fun hp => ?_)
      · have h := (if_pos hp).symm.trans h
        refine am_E.go (n := 2) rfl ?_
        obtain ⟨hg, h⟩ := am_ifI h
        refine am_E.grd rfl hg ?_
        refine am_E.brk rfl (fun hp => ?_) (fun hp => ?_)
        · have h := (if_pos hp).symm.trans h
          refine am_E.go (n := 1) rfl ?_
          refine am_E.brk rfl (fun hp => ?_) (fun hp => ?_)
          · have h := (if_pos hp).symm.trans h
            refine am_E.go (n := 1) rfl ?_
            refine am_E.less (ls0 := [_, _, _, _, .retAddr 0, .retAddr 0]) ?_ ⟨Or.inl rfl, Or.inl rfl, Or.inl rfl, Or.inl rfl, Or.inr ⟨rfl, rfl⟩, Or.inr ⟨rfl, rfl⟩, trivial⟩
            exact ih.2.2 h
          · have h := (if_neg hp).symm.trans h
            refine am_E.go (n := 2) rfl ?_
            refine am_E.less (ls0 := [_, _, _, _, .retAddr 0, .retAddr 0]) ?_ ⟨Or.inl rfl, Or.inl rfl, Or.inl rfl, Or.inl rfl, Or.inr ⟨rfl, rfl⟩, Or.inr ⟨rfl, rfl⟩, trivial⟩
            exact ih.2.2 h
        · have h := (if_neg hp).symm.trans h
          refine am_E.go (n := 3) rfl ?_
          cases h
          exact am_E.ret rfl ⟨rfl, rfl⟩
      · have h := (if_neg hp).symm.trans h
        refine am_E.go (n := 2) rfl ?_
        refine am_E.brk rfl (fun hp => ?_) (fun hp => ?_)
        · have h := (if_pos hp).symm.trans h
          refine am_E.go (n := 2) rfl ?_
          obtain ⟨hg, h⟩ := am_ifI h
          refine am_E.grd rfl hg ?_
          refine am_E.brk rfl (fun hp => ?_) (fun hp => ?_)
          · have h := (if_pos hp).symm.trans h
            refine am_E.go (n := 1) rfl ?_
            refine am_E.brk rfl (fun hp => ?_) (fun hp => ?_)
            · have h := (if_pos hp).symm.trans h
              refine am_E.go (n := 1) rfl ?_
              refine am_E.less (ls0 := [_, _, _, _, .retAddr 0, .retAddr 0]) ?_ ⟨Or.inl rfl, Or.inl rfl, Or.inl rfl, Or.inl rfl, Or.inr ⟨rfl, rfl⟩, Or.inr ⟨rfl, rfl⟩, trivial⟩
              exact ih.2.2 h
            · have h := (if_neg hp).symm.trans h
              refine am_E.go (n := 2) rfl ?_
              refine am_E.less (ls0 := [_, _, _, _, .retAddr 0, .retAddr 0]) ?_ ⟨Or.inl rfl, Or.inl rfl, Or.inl rfl, Or.inl rfl, Or.inr ⟨rfl, rfl⟩, Or.inr ⟨rfl, rfl⟩, trivial⟩
              exact ih.2.2 h
          · have h := (if_neg hp).symm.trans h
            refine am_E.go (n := 3) rfl ?_
            cases h
            exact am_E.ret rfl ⟨rfl, rfl⟩
        · have h := (if_neg hp).symm.trans h
          refine am_E.go (n := 5) rfl ?_
          obtain ⟨hg, h⟩ := am_ifI h
          refine am_E.grd rfl hg ?_
          refine am_E.go (n := 3) rfl ?_
          obtain ⟨hg, h⟩ := am_ifI h
          refine am_E.grd rfl hg ?_
          refine am_E.brk rfl (fun hp => ?_) (fun hp => ?_)
          · have h := (if_pos hp).symm.trans h
            refine am_E.go (n := 2) rfl ?_
            obtain ⟨hg, h⟩ := am_ifI h
            refine am_E.grd rfl hg ?_
            refine am_E.brk rfl (fun hp => ?_) (fun hp => ?_)
            · have h := (if_pos hp).symm.trans h
              refine am_E.go (n := 1) rfl ?_
              refine am_E.brk rfl (fun hp => ?_) (fun hp => ?_)
              · have h := (if_pos hp).symm.trans h
                refine am_E.go (n := 1) rfl ?_
                refine am_E.less (ls0 := [_, _, _, _, .retAddr 0, .retAddr 0]) ?_ ⟨Or.inl rfl, Or.inl rfl, Or.inl rfl, Or.inl rfl, Or.inr ⟨rfl, rfl⟩, Or.inr ⟨rfl, rfl⟩, trivial⟩
                exact ih.2.2 h
              · have h := (if_neg hp).symm.trans h
                refine am_E.go (n := 2) rfl ?_
                refine am_E.less (ls0 := [_, _, _, _, .retAddr 0, .retAddr 0]) ?_ ⟨Or.inl rfl, Or.inl rfl, Or.inl rfl, Or.inl rfl, Or.inr ⟨rfl, rfl⟩, Or.inr ⟨rfl, rfl⟩, trivial⟩
                exact ih.2.2 h
            · have h := (if_neg hp).symm.trans h
              refine am_E.go (n := 3) rfl ?_
              cases h
              exact am_E.ret rfl ⟨rfl, rfl⟩
          · have h := (if_neg hp).symm.trans h
            refine am_E.go (n := 2) rfl ?_
            exact ih.2.1 h
    · intro I J x1 x2 x3 x4 x5 I' J' r h
      simp only [LX8_word] at h
      refine am_E.go (n := 2) rfl ?_
      obtain ⟨hg, h⟩ := am_ifI h
      refine am_E.grd rfl hg ?_
      refine am_E.brk rfl (fun hp => ?_) (fun hp => ?_)
      · have h := (if_pos hp).symm.trans h
        refine am_E.go (n := 2) rfl ?_
        exact ih.1 h
      · have h := (if_neg hp).symm.trans h
        refine am_E.go (n := 1) rfl ?_
        exact ih.2.2 h
set_option maxHeartbeats 4000000 in
set_option maxRecDepth 100000 in
theorem axX8_word {I : Nat → Nat → Int32} {J : Nat → Nat → Int64} {r : Int32} {I' : Nat → Nat → Int32} {J' : Nat → Nat → Int64} (h : DX8_word I J = some (r, I', J')) : am_F 0 nX8_word [.ref 0, .retAddr 0, .retAddr 0, .retAddr 0, .retAddr 0, .retAddr 0] (TM, I, J, RM) (some (.int r)) (TM, I', J', RM) := by
  unfold DX8_word at h
  unfold am_F
  refine am_E.go (n := 6) rfl ?_
  exact (alX8_word am_FU).1 h
