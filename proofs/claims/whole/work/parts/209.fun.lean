/-! THE METHODS AS FUNCTIONS over the memory, and the row that their runs do so: laid by program (wip/whole/decomp.py) -/
def DX8_isDigit (I : Nat → Nat → Int32) (J : Nat → Nat → Int64) : Option Int32 :=
  if (I 0 27) ≤ (I 0 26) then
    some ((0 : Int32))
  else
    if ¬ (((I 0 25) + (I 0 26)) < 0 ∨ 1280 ≤ (((I 0 25) + (I 0 26))).toNatClampNeg) then
      if ((J 15 (((I 0 25) + (I 0 26))).toNatClampNeg)).toInt32 < (48 : Int32) then
        some ((0 : Int32))
      else
        if ¬ (((I 0 25) + (I 0 26)) < 0 ∨ 1280 ≤ (((I 0 25) + (I 0 26))).toNatClampNeg) then
          if (57 : Int32) < ((J 15 (((I 0 25) + (I 0 26))).toNatClampNeg)).toInt32 then
            some ((0 : Int32))
          else
            some ((1 : Int32))
        else none
    else none
set_option maxHeartbeats 4000000 in
set_option maxRecDepth 100000 in
theorem axX8_isDigit {I : Nat → Nat → Int32} {J : Nat → Nat → Int64} {r : Int32} (h : DX8_isDigit I J = some r) : am_F 0 nX8_isDigit [.ref 0] (TM, I, J, RM) (some (.int r)) (TM, I, J, RM) := by
  unfold DX8_isDigit at h
  unfold am_F
  refine am_E.go (n := 3) rfl ?_
  refine am_E.brk rfl (fun hp => ?_) (fun hp => ?_)
  · have h := (if_pos hp).symm.trans h
    refine am_E.go (n := 0) rfl ?_
    cases h
    first | exact am_E.ret rfl ⟨rfl, rfl⟩ | exact am_E.retG rfl (by decide) ⟨rfl, rfl⟩
  · have h := (if_neg hp).symm.trans h
    refine am_E.go (n := 6) rfl ?_
    obtain ⟨hg, h⟩ := am_ifI h
    refine am_E.grd rfl hg ?_
    refine am_E.go (n := 1) rfl ?_
    refine am_E.brk rfl (fun hp => ?_) (fun hp => ?_)
    · have h := (if_pos hp).symm.trans h
      refine am_E.go (n := 0) rfl ?_
      cases h
      first | exact am_E.ret rfl ⟨rfl, rfl⟩ | exact am_E.retG rfl (by decide) ⟨rfl, rfl⟩
    · have h := (if_neg hp).symm.trans h
      refine am_E.go (n := 6) rfl ?_
      obtain ⟨hg, h⟩ := am_ifI h
      refine am_E.grd rfl hg ?_
      refine am_E.go (n := 1) rfl ?_
      refine am_E.brk rfl (fun hp => ?_) (fun hp => ?_)
      · have h := (if_pos hp).symm.trans h
        refine am_E.go (n := 0) rfl ?_
        cases h
        first | exact am_E.ret rfl ⟨rfl, rfl⟩ | exact am_E.retG rfl (by decide) ⟨rfl, rfl⟩
      · have h := (if_neg hp).symm.trans h
        refine am_E.go (n := 1) rfl ?_
        cases h
        first | exact am_E.ret rfl ⟨rfl, rfl⟩ | exact am_E.retG rfl (by decide) ⟨rfl, rfl⟩
def DX8_number (I : Nat → Nat → Int32) (J : Nat → Nat → Int64) : Option (Int32 × (Nat → Nat → Int32) × (Nat → Nat → Int64)) :=
  (DX8_isDigit (am_upI I 0 28 (0 : Int32)) J).bind fun q1 =>
  if ¬ q1 = 0 then
    if ¬ (((((am_upI I 0 28 (0 : Int32))) 0 25) + (((am_upI I 0 28 (0 : Int32))) 0 26)) < 0 ∨ 1280 ≤ (((((am_upI I 0 28 (0 : Int32))) 0 25) + (((am_upI I 0 28 (0 : Int32))) 0 26))).toNatClampNeg) then
      (some (am_upI ((am_upI I 0 28 (0 : Int32))) 0 28 (((J 15 (((((am_upI I 0 28 (0 : Int32))) 0 25) + (((am_upI I 0 28 (0 : Int32))) 0 26))).toNatClampNeg)).toInt32 - (48 : Int32)))).bind fun I2 =>
      (DX8_isDigit (am_upI I2 0 26 ((I2 0 26) + (1 : Int32))) J).bind fun q3 =>
      if q3 = 0 then
        some ((1 : Int32), (am_upI I2 0 26 ((I2 0 26) + (1 : Int32))), J)
      else
        if ¬ (((((am_upI I2 0 26 ((I2 0 26) + (1 : Int32)))) 0 25) + (((am_upI I2 0 26 ((I2 0 26) + (1 : Int32)))) 0 26)) < 0 ∨ 1280 ≤ (((((am_upI I2 0 26 ((I2 0 26) + (1 : Int32)))) 0 25) + (((am_upI I2 0 26 ((I2 0 26) + (1 : Int32)))) 0 26))).toNatClampNeg) then
          (some (am_upI ((am_upI I2 0 26 ((I2 0 26) + (1 : Int32)))) 0 28 ((((10 : Int32) * (((am_upI I2 0 26 ((I2 0 26) + (1 : Int32)))) 0 28)) + ((J 15 (((((am_upI I2 0 26 ((I2 0 26) + (1 : Int32)))) 0 25) + (((am_upI I2 0 26 ((I2 0 26) + (1 : Int32)))) 0 26))).toNatClampNeg)).toInt32) - (48 : Int32)))).bind fun I4 =>
          some ((1 : Int32), (am_upI I4 0 26 ((I4 0 26) + (1 : Int32))), J)
        else none
    else none
  else
    (DX8_faulty (am_upI I 0 28 (0 : Int32)) J ((((am_upI I 0 28 (0 : Int32))) 0 26))).bind fun q5 =>
    if q5.1 = 0 ∨ q5.1 = 1 then some (q5.1, q5.2.1, q5.2.2) else none
set_option maxHeartbeats 4000000 in
set_option maxRecDepth 100000 in
theorem axX8_number {I : Nat → Nat → Int32} {J : Nat → Nat → Int64} {r : Int32} {I' : Nat → Nat → Int32} {J' : Nat → Nat → Int64} (h : DX8_number I J = some (r, I', J')) : am_F 1 nX8_number [.ref 0] (TM, I, J, RM) (some (.int r)) (TM, I', J', RM) := by
  unfold DX8_number at h
  unfold am_F
  refine am_E.go (n := 3) rfl ?_
  obtain ⟨q1, hq, h⟩ := am_bindI h
  refine am_E.callF rfl (by decide) (axX8_isDigit hq) ?_
  refine am_E.brk rfl (fun hp => ?_) (fun hp => ?_)
  · have h := (if_pos hp).symm.trans h
    refine am_E.go (n := 7) rfl ?_
    obtain ⟨hg, h⟩ := am_ifI h
    refine am_E.grd rfl hg ?_
    refine am_E.go (n := 10) rfl ?_
    obtain ⟨I2, hI, h⟩ := am_bindI h
    obtain rfl := Option.some.inj hI
    obtain ⟨q3, hq, h⟩ := am_bindI h
    refine am_E.callF rfl (by decide) (axX8_isDigit hq) ?_
    refine am_E.brk rfl (fun hp => ?_) (fun hp => ?_)
    · have h := (if_pos hp).symm.trans h
      refine am_E.go (n := 0) rfl ?_
      cases h
      first | exact am_E.ret rfl ⟨rfl, rfl⟩ | exact am_E.retG rfl (by decide) ⟨rfl, rfl⟩
    · have h := (if_neg hp).symm.trans h
      refine am_E.go (n := 11) rfl ?_
      obtain ⟨hg, h⟩ := am_ifI h
      refine am_E.grd rfl hg ?_
      refine am_E.go (n := 11) rfl ?_
      obtain ⟨I4, hI, h⟩ := am_bindI h
      obtain rfl := Option.some.inj hI
      cases h
      first | exact am_E.ret rfl ⟨rfl, rfl⟩ | exact am_E.retG rfl (by decide) ⟨rfl, rfl⟩
  · have h := (if_neg hp).symm.trans h
    refine am_E.go (n := 2) rfl ?_
    obtain ⟨q5, hq, h⟩ := am_bindI h
    obtain ⟨q5_1, q5_2, q5_3⟩ := q5
    refine am_E.callF rfl (by decide) (axX8_faulty hq) ?_
    obtain ⟨hg, h⟩ := am_ifI h
    cases h
    exact am_E.retG rfl hg ⟨rfl, rfl⟩
def DX8_isSo (I : Nat → Nat → Int32) (a0 : Int32) (a1 : Int32) : Option Int32 :=
  if a0 = 0 then
    (if ¬ a1 = 0 then
      if ¬ a1 = (1 : Int32) then
        if (9 : Int32) < (I 0 28) then
          some ((0 : Int32))
        else
          some ((1 : Int32))
      else
        if (7 : Int32) < (I 0 28) then
          some ((0 : Int32))
        else
          some ((1 : Int32))
    else
      if (6 : Int32) < (I 0 28) then
        some ((0 : Int32))
      else
        some ((1 : Int32)))
  else if a0 = 1 then
    (if ¬ a1 = 0 then
      if (8 : Int32) ≤ (I 0 28) then
        some ((0 : Int32))
      else
        some ((1 : Int32))
    else
      if (24 : Int32) ≤ (I 0 28) then
        some ((0 : Int32))
      else
        some ((1 : Int32)))
  else if a0 = 2 then
    (if ¬ a1 = 0 then
      if (I 0 0) ≤ (I 0 28) then
        some ((0 : Int32))
      else
        some ((1 : Int32))
    else
      if (24 : Int32) ≤ (I 0 28) then
        some ((0 : Int32))
      else
        some ((1 : Int32)))
  else if a0 = 3 then
    (if ¬ a1 = 0 then
      if (I 0 0) ≤ (I 0 28) then
        some ((0 : Int32))
      else
        some ((1 : Int32))
    else
      if (24 : Int32) ≤ (I 0 28) then
        some ((0 : Int32))
      else
        (DX8_mayLay I ((I 0 28))).bind fun q1 =>
        if q1 = 0 then
          some ((0 : Int32))
        else
          some ((1 : Int32)))
  else if a0 = 4 then
    (if (2 : Int32) < (I 0 28) then
      some ((0 : Int32))
    else
      some ((1 : Int32)))
  else if (I 0 28) < (1 : Int32) then
    some ((0 : Int32))
  else
    some ((1 : Int32))
set_option maxHeartbeats 4000000 in
set_option maxRecDepth 100000 in
theorem axX8_isSo {I : Nat → Nat → Int32} {J : Nat → Nat → Int64} {a0 : Int32} {a1 : Int32} {r : Int32} (h : DX8_isSo I a0 a1 = some r) : am_F 1 nX8_isSo [.ref 0, .int a0, .int a1] (TM, I, J, RM) (some (.int r)) (TM, I, J, RM) := by
  unfold DX8_isSo at h
  unfold am_F
  refine am_E.go (n := 0) rfl ?_
  refine am_E.sw rfl ?_
  refine ⟨fun hp => ?_, fun hp => ?_⟩
  · have h := (if_pos hp).symm.trans h
    refine am_E.go (n := 2) rfl ?_
    refine am_E.brk rfl (fun hp => ?_) (fun hp => ?_)
    · have h := (if_pos hp).symm.trans h
      refine am_E.go (n := 1) rfl ?_
      refine am_E.brk rfl (fun hp => ?_) (fun hp => ?_)
      · have h := (if_pos hp).symm.trans h
        refine am_E.go (n := 0) rfl ?_
        refine am_E.brk rfl (fun hp => ?_) (fun hp => ?_)
        · have h := (if_pos hp).symm.trans h
          refine am_E.go (n := 0) rfl ?_
          cases h
          first | exact am_E.ret rfl ⟨rfl, rfl⟩ | exact am_E.retG rfl (by decide) ⟨rfl, rfl⟩
        · have h := (if_neg hp).symm.trans h
          refine am_E.go (n := 1) rfl ?_
          cases h
          first | exact am_E.ret rfl ⟨rfl, rfl⟩ | exact am_E.retG rfl (by decide) ⟨rfl, rfl⟩
      · have h := (if_neg hp).symm.trans h
        refine am_E.go (n := 1) rfl ?_
        refine am_E.brk rfl (fun hp => ?_) (fun hp => ?_)
        · have h := (if_pos hp).symm.trans h
          refine am_E.go (n := 0) rfl ?_
          cases h
          first | exact am_E.ret rfl ⟨rfl, rfl⟩ | exact am_E.retG rfl (by decide) ⟨rfl, rfl⟩
        · have h := (if_neg hp).symm.trans h
          refine am_E.go (n := 1) rfl ?_
          cases h
          first | exact am_E.ret rfl ⟨rfl, rfl⟩ | exact am_E.retG rfl (by decide) ⟨rfl, rfl⟩
    · have h := (if_neg hp).symm.trans h
      refine am_E.go (n := 1) rfl ?_
      refine am_E.brk rfl (fun hp => ?_) (fun hp => ?_)
      · have h := (if_pos hp).symm.trans h
        refine am_E.go (n := 0) rfl ?_
        cases h
        first | exact am_E.ret rfl ⟨rfl, rfl⟩ | exact am_E.retG rfl (by decide) ⟨rfl, rfl⟩
      · have h := (if_neg hp).symm.trans h
        refine am_E.go (n := 1) rfl ?_
        cases h
        first | exact am_E.ret rfl ⟨rfl, rfl⟩ | exact am_E.retG rfl (by decide) ⟨rfl, rfl⟩
  have h := (if_neg hp).symm.trans h
  refine ⟨fun hp => ?_, fun hp => ?_⟩
  · have h := (if_pos hp).symm.trans h
    refine am_E.go (n := 2) rfl ?_
    refine am_E.brk rfl (fun hp => ?_) (fun hp => ?_)
    · have h := (if_pos hp).symm.trans h
      refine am_E.go (n := 0) rfl ?_
      refine am_E.brk rfl (fun hp => ?_) (fun hp => ?_)
      · have h := (if_pos hp).symm.trans h
        refine am_E.go (n := 0) rfl ?_
        cases h
        first | exact am_E.ret rfl ⟨rfl, rfl⟩ | exact am_E.retG rfl (by decide) ⟨rfl, rfl⟩
      · have h := (if_neg hp).symm.trans h
        refine am_E.go (n := 1) rfl ?_
        cases h
        first | exact am_E.ret rfl ⟨rfl, rfl⟩ | exact am_E.retG rfl (by decide) ⟨rfl, rfl⟩
    · have h := (if_neg hp).symm.trans h
      refine am_E.go (n := 1) rfl ?_
      refine am_E.brk rfl (fun hp => ?_) (fun hp => ?_)
      · have h := (if_pos hp).symm.trans h
        refine am_E.go (n := 0) rfl ?_
        cases h
        first | exact am_E.ret rfl ⟨rfl, rfl⟩ | exact am_E.retG rfl (by decide) ⟨rfl, rfl⟩
      · have h := (if_neg hp).symm.trans h
        refine am_E.go (n := 1) rfl ?_
        cases h
        first | exact am_E.ret rfl ⟨rfl, rfl⟩ | exact am_E.retG rfl (by decide) ⟨rfl, rfl⟩
  have h := (if_neg hp).symm.trans h
  refine ⟨fun hp => ?_, fun hp => ?_⟩
  · have h := (if_pos hp).symm.trans h
    refine am_E.go (n := 2) rfl ?_
    refine am_E.brk rfl (fun hp => ?_) (fun hp => ?_)
    · have h := (if_pos hp).symm.trans h
      refine am_E.go (n := 1) rfl ?_
      refine am_E.brk rfl (fun hp => ?_) (fun hp => ?_)
      · have h := (if_pos hp).symm.trans h
        refine am_E.go (n := 0) rfl ?_
        cases h
        first | exact am_E.ret rfl ⟨rfl, rfl⟩ | exact am_E.retG rfl (by decide) ⟨rfl, rfl⟩
      · have h := (if_neg hp).symm.trans h
        refine am_E.go (n := 1) rfl ?_
        cases h
        first | exact am_E.ret rfl ⟨rfl, rfl⟩ | exact am_E.retG rfl (by decide) ⟨rfl, rfl⟩
    · have h := (if_neg hp).symm.trans h
      refine am_E.go (n := 1) rfl ?_
      refine am_E.brk rfl (fun hp => ?_) (fun hp => ?_)
      · have h := (if_pos hp).symm.trans h
        refine am_E.go (n := 0) rfl ?_
        cases h
        first | exact am_E.ret rfl ⟨rfl, rfl⟩ | exact am_E.retG rfl (by decide) ⟨rfl, rfl⟩
      · have h := (if_neg hp).symm.trans h
        refine am_E.go (n := 1) rfl ?_
        cases h
        first | exact am_E.ret rfl ⟨rfl, rfl⟩ | exact am_E.retG rfl (by decide) ⟨rfl, rfl⟩
  have h := (if_neg hp).symm.trans h
  refine ⟨fun hp => ?_, fun hp => ?_⟩
  · have h := (if_pos hp).symm.trans h
    refine am_E.go (n := 0) rfl ?_
    refine am_E.brk rfl (fun hp => ?_) (fun hp => ?_)
    · have h := (if_pos hp).symm.trans h
      refine am_E.go (n := 3) rfl ?_
      refine am_E.brk rfl (fun hp => ?_) (fun hp => ?_)
      · have h := (if_pos hp).symm.trans h
        refine am_E.go (n := 0) rfl ?_
        cases h
        first | exact am_E.ret rfl ⟨rfl, rfl⟩ | exact am_E.retG rfl (by decide) ⟨rfl, rfl⟩
      · have h := (if_neg hp).symm.trans h
        refine am_E.go (n := 1) rfl ?_
        cases h
        first | exact am_E.ret rfl ⟨rfl, rfl⟩ | exact am_E.retG rfl (by decide) ⟨rfl, rfl⟩
    · have h := (if_neg hp).symm.trans h
      refine am_E.go (n := 2) rfl ?_
      refine am_E.brk rfl (fun hp => ?_) (fun hp => ?_)
      · have h := (if_pos hp).symm.trans h
        refine am_E.go (n := 1) rfl ?_
        cases h
        first | exact am_E.ret rfl ⟨rfl, rfl⟩ | exact am_E.retG rfl (by decide) ⟨rfl, rfl⟩
      · have h := (if_neg hp).symm.trans h
        refine am_E.go (n := 2) rfl ?_
        obtain ⟨q1, hq, h⟩ := am_bindI h
        refine am_E.callF rfl (by decide) (axX8_mayLay hq) ?_
        refine am_E.brk rfl (fun hp => ?_) (fun hp => ?_)
        · have h := (if_pos hp).symm.trans h
          refine am_E.go (n := 1) rfl ?_
          cases h
          first | exact am_E.ret rfl ⟨rfl, rfl⟩ | exact am_E.retG rfl (by decide) ⟨rfl, rfl⟩
        · have h := (if_neg hp).symm.trans h
          refine am_E.go (n := 1) rfl ?_
          cases h
          first | exact am_E.ret rfl ⟨rfl, rfl⟩ | exact am_E.retG rfl (by decide) ⟨rfl, rfl⟩
  have h := (if_neg hp).symm.trans h
  refine ⟨fun hp => ?_, fun hp => ?_⟩
  · have h := (if_pos hp).symm.trans h
    refine am_E.go (n := 2) rfl ?_
    refine am_E.brk rfl (fun hp => ?_) (fun hp => ?_)
    · have h := (if_pos hp).symm.trans h
      refine am_E.go (n := 0) rfl ?_
      cases h
      first | exact am_E.ret rfl ⟨rfl, rfl⟩ | exact am_E.retG rfl (by decide) ⟨rfl, rfl⟩
    · have h := (if_neg hp).symm.trans h
      refine am_E.go (n := 1) rfl ?_
      cases h
      first | exact am_E.ret rfl ⟨rfl, rfl⟩ | exact am_E.retG rfl (by decide) ⟨rfl, rfl⟩
  have h := (if_neg hp).symm.trans h
  refine am_E.go (n := 2) rfl ?_
  refine am_E.brk rfl (fun hp => ?_) (fun hp => ?_)
  · have h := (if_pos hp).symm.trans h
    refine am_E.go (n := 0) rfl ?_
    cases h
    first | exact am_E.ret rfl ⟨rfl, rfl⟩ | exact am_E.retG rfl (by decide) ⟨rfl, rfl⟩
  · have h := (if_neg hp).symm.trans h
    refine am_E.go (n := 1) rfl ?_
    cases h
    first | exact am_E.ret rfl ⟨rfl, rfl⟩ | exact am_E.retG rfl (by decide) ⟨rfl, rfl⟩
def LX8_item : Nat → (Nat → Nat → Int32) → (Nat → Nat → Int64) → Int32 → Int32 → Int32 → Option (Int32 × (Nat → Nat → Int32) × (Nat → Nat → Int64))
  | 0, _, _, _, _, _ => none
  | n + 1, I, J, x1, x2, x3 =>
    if x2 ≤ x3 then
      if x1 = 0 then
        (if ¬ ((0 : Int32) < 0 ∨ 3 ≤ ((0 : Int32)).toNatClampNeg) then
          if ¬ ((1 : Int32) < 0 ∨ 3 ≤ ((1 : Int32)).toNatClampNeg) then
            if ¬ ((2 : Int32) < 0 ∨ 3 ≤ ((2 : Int32)).toNatClampNeg) then
              (DX8_adds I J ((I 18 ((0 : Int32)).toNatClampNeg)) ((I 18 ((1 : Int32)).toNatClampNeg)) ((I 18 ((2 : Int32)).toNatClampNeg))).bind fun q17 =>
              some ((1 : Int32), q17.2.1, q17.2.2)
            else none
          else none
        else none)
      else if x1 = 1 then
        (if ¬ ((0 : Int32) < 0 ∨ 3 ≤ ((0 : Int32)).toNatClampNeg) then
          if ¬ ((1 : Int32) < 0 ∨ 3 ≤ ((1 : Int32)).toNatClampNeg) then
            if ¬ ((I 18 ((0 : Int32)).toNatClampNeg) < 0 ∨ 24 ≤ ((I 18 ((0 : Int32)).toNatClampNeg)).toNatClampNeg) then
              some ((1 : Int32), (am_upI I 5 ((I 18 ((0 : Int32)).toNatClampNeg)).toNatClampNeg (I 18 ((1 : Int32)).toNatClampNeg)), J)
            else none
          else none
        else none)
      else if x1 = 2 then
        (if ¬ ((0 : Int32) < 0 ∨ 3 ≤ ((0 : Int32)).toNatClampNeg) then
          if ¬ ((1 : Int32) < 0 ∨ 3 ≤ ((1 : Int32)).toNatClampNeg) then
            if ¬ ((I 18 ((0 : Int32)).toNatClampNeg) < 0 ∨ 24 ≤ ((I 18 ((0 : Int32)).toNatClampNeg)).toNatClampNeg) then
              some ((1 : Int32), (am_upI I 7 ((I 18 ((0 : Int32)).toNatClampNeg)).toNatClampNeg (I 18 ((1 : Int32)).toNatClampNeg)), J)
            else none
          else none
        else none)
      else if x1 = 3 then
        (if ¬ ((0 : Int32) < 0 ∨ 3 ≤ ((0 : Int32)).toNatClampNeg) then
          if ¬ ((1 : Int32) < 0 ∨ 3 ≤ ((1 : Int32)).toNatClampNeg) then
            (DX8_puts I J ((I 18 ((0 : Int32)).toNatClampNeg)) ((I 18 ((1 : Int32)).toNatClampNeg))).bind fun q18 =>
            some ((1 : Int32), q18.2.1, q18.2.2)
          else none
        else none)
      else if x1 = 4 then
        (if ¬ ((0 : Int32) < 0 ∨ 3 ≤ ((0 : Int32)).toNatClampNeg) then
          some ((1 : Int32), (am_upI I 0 1 (I 18 ((0 : Int32)).toNatClampNeg)), J)
        else none)
      else if x1 = 5 then
        ((DX8_spray I J).bind fun q19 =>
        some ((1 : Int32), q19.2.1, q19.2.2))
      else if ¬ ((0 : Int32) < 0 ∨ 3 ≤ ((0 : Int32)).toNatClampNeg) then
        (DX8_goes I J ((I 18 ((0 : Int32)).toNatClampNeg))).bind fun q20 =>
        some ((1 : Int32), q20.2.1, q20.2.2)
      else none
    else
      if x3 ≤ 0 then
        (DX8_number I J).bind fun q21 =>
        if ¬ q21.1 = 0 then
          (DX8_isSo q21.2.1 x1 x3).bind fun q22 =>
          if ¬ q22 = 0 then
            if ¬ (x3 < 0 ∨ 3 ≤ (x3).toNatClampNeg) then
              LX8_item n ((am_upI q21.2.1 18 (x3).toNatClampNeg (q21.2.1 0 28))) q21.2.2 x1 x2 ((x3 + (1 : Int32)))
            else none
          else
            (DX8_faulty q21.2.1 q21.2.2 ((I 0 26))).bind fun q23 =>
            if q23.1 = 0 ∨ q23.1 = 1 then some (q23.1, q23.2.1, q23.2.2) else none
        else
          some ((0 : Int32), q21.2.1, q21.2.2)
      else
        if (I 0 27) ≤ (I 0 26) then
          (DX8_faulty I J ((I 0 26))).bind fun q24 =>
          if q24.1 = 0 ∨ q24.1 = 1 then some (q24.1, q24.2.1, q24.2.2) else none
        else
          if ¬ (((I 0 25) + (I 0 26)) < 0 ∨ 1280 ≤ (((I 0 25) + (I 0 26))).toNatClampNeg) then
            if ((J 15 (((I 0 25) + (I 0 26))).toNatClampNeg)).toInt32 = (32 : Int32) then
              (DX8_number (am_upI I 0 26 ((I 0 26) + (1 : Int32))) J).bind fun q25 =>
              if ¬ q25.1 = 0 then
                (DX8_isSo q25.2.1 x1 x3).bind fun q26 =>
                if ¬ q26 = 0 then
                  if ¬ (x3 < 0 ∨ 3 ≤ (x3).toNatClampNeg) then
                    LX8_item n ((am_upI q25.2.1 18 (x3).toNatClampNeg (q25.2.1 0 28))) q25.2.2 x1 x2 ((x3 + (1 : Int32)))
                  else none
                else
                  (DX8_faulty q25.2.1 q25.2.2 ((((am_upI I 0 26 ((I 0 26) + (1 : Int32)))) 0 26))).bind fun q27 =>
                  if q27.1 = 0 ∨ q27.1 = 1 then some (q27.1, q27.2.1, q27.2.2) else none
              else
                some ((0 : Int32), q25.2.1, q25.2.2)
            else
              (DX8_faulty I J ((I 0 26))).bind fun q28 =>
              if q28.1 = 0 ∨ q28.1 = 1 then some (q28.1, q28.2.1, q28.2.2) else none
          else none
def DX8_item (I : Nat → Nat → Int32) (J : Nat → Nat → Int64) : Option (Int32 × (Nat → Nat → Int32) × (Nat → Nat → Int64)) :=
  (DX8_isWordAt I J ((0 : Int32))).bind fun q1 =>
  if q1 = 0 then
    (DX8_word I J).bind fun q2 =>
    if ¬ q2.1 = (-1 : Int32) then
      if ¬ q2.1 = 0 then
        if (4 : Int32) ≤ q2.1 then
          if ¬ q2.1 = (5 : Int32) then
            LX8_item am_FU q2.2.1 q2.2.2 q2.1 ((1 : Int32)) ((0 : Int32))
          else
            LX8_item am_FU q2.2.1 q2.2.2 q2.1 ((0 : Int32)) ((0 : Int32))
        else
          LX8_item am_FU q2.2.1 q2.2.2 q2.1 ((2 : Int32)) ((0 : Int32))
      else
        LX8_item am_FU q2.2.1 q2.2.2 q2.1 ((3 : Int32)) ((0 : Int32))
    else
      some ((0 : Int32), q2.2.1, q2.2.2)
  else
    if ¬ (I 0 0) = (8 : Int32) then
      (DX8_word I J).bind fun q3 =>
      if ¬ q3.1 = (-1 : Int32) then
        if ¬ q3.1 = 0 then
          if (4 : Int32) ≤ q3.1 then
            if ¬ q3.1 = (5 : Int32) then
              LX8_item am_FU q3.2.1 q3.2.2 q3.1 ((1 : Int32)) ((0 : Int32))
            else
              LX8_item am_FU q3.2.1 q3.2.2 q3.1 ((0 : Int32)) ((0 : Int32))
          else
            LX8_item am_FU q3.2.1 q3.2.2 q3.1 ((2 : Int32)) ((0 : Int32))
        else
          LX8_item am_FU q3.2.1 q3.2.2 q3.1 ((3 : Int32)) ((0 : Int32))
      else
        some ((0 : Int32), q3.2.1, q3.2.2)
    else
      (DX8_faulty I J ((I 0 26))).bind fun q4 =>
      if q4.1 = 0 ∨ q4.1 = 1 then some (q4.1, q4.2.1, q4.2.2) else none
set_option maxHeartbeats 4000000 in
set_option maxRecDepth 100000 in
theorem alX8_item : ∀ (n : Nat), ∀ {I : Nat → Nat → Int32} {J : Nat → Nat → Int64} {x1 : Int32} {x2 : Int32} {x3 : Int32} {I' : Nat → Nat → Int32} {J' : Nat → Nat → Int64} {r : Int32}, LX8_item n I J x1 x2 x3 = some (r, I', J') → am_E 2 nX8_item (68, [.ref 0, .int x1, .int x2, .int x3, .retAddr 0], [], (TM, I, J, RM)) (fun v M' => v = some (.int r) ∧ M' = (TM, I', J', RM)) := by
  intro n
  induction n with
  | zero => intros; contradiction
  | succ n ih =>
    intro I J x1 x2 x3 I' J' r h
    simp only [LX8_item] at h
    refine am_E.go (n := 1) rfl ?_
    refine am_E.brk rfl (fun hp => ?_) (fun hp => ?_)
    · have h := (if_pos hp).symm.trans h
      refine am_E.go (n := 0) rfl ?_
      refine am_E.sw rfl ?_
      refine ⟨fun hp => ?_, fun hp => ?_⟩
      · have h := (if_pos hp).symm.trans h
        refine am_E.go (n := 3) rfl ?_
        obtain ⟨hg, h⟩ := am_ifI h
        refine am_E.grd rfl hg ?_
        refine am_E.go (n := 2) rfl ?_
        obtain ⟨hg, h⟩ := am_ifI h
        refine am_E.grd rfl hg ?_
        refine am_E.go (n := 2) rfl ?_
        obtain ⟨hg, h⟩ := am_ifI h
        refine am_E.grd rfl hg ?_
        obtain ⟨q17, hq, h⟩ := am_bindI h
        obtain ⟨q17_1, q17_2, q17_3⟩ := q17
        refine am_E.callF rfl (by decide) (axX8_adds hq) ?_
        refine am_E.go (n := 2) rfl ?_
        cases h
        first | exact am_E.ret rfl ⟨rfl, rfl⟩ | exact am_E.retG rfl (by decide) ⟨rfl, rfl⟩
      have h := (if_neg hp).symm.trans h
      refine ⟨fun hp => ?_, fun hp => ?_⟩
      · have h := (if_pos hp).symm.trans h
        refine am_E.go (n := 4) rfl ?_
        obtain ⟨hg, h⟩ := am_ifI h
        refine am_E.grd rfl hg ?_
        refine am_E.go (n := 2) rfl ?_
        obtain ⟨hg, h⟩ := am_ifI h
        refine am_E.grd rfl hg ?_
        obtain ⟨hg, h⟩ := am_ifI h
        refine am_E.grd rfl hg ?_
        refine am_E.go (n := 1) rfl ?_
        cases h
        first | exact am_E.ret rfl ⟨rfl, rfl⟩ | exact am_E.retG rfl (by decide) ⟨rfl, rfl⟩
      have h := (if_neg hp).symm.trans h
      refine ⟨fun hp => ?_, fun hp => ?_⟩
      · have h := (if_pos hp).symm.trans h
        refine am_E.go (n := 4) rfl ?_
        obtain ⟨hg, h⟩ := am_ifI h
        refine am_E.grd rfl hg ?_
        refine am_E.go (n := 2) rfl ?_
        obtain ⟨hg, h⟩ := am_ifI h
        refine am_E.grd rfl hg ?_
        obtain ⟨hg, h⟩ := am_ifI h
        refine am_E.grd rfl hg ?_
        refine am_E.go (n := 1) rfl ?_
        cases h
        first | exact am_E.ret rfl ⟨rfl, rfl⟩ | exact am_E.retG rfl (by decide) ⟨rfl, rfl⟩
      have h := (if_neg hp).symm.trans h
      refine ⟨fun hp => ?_, fun hp => ?_⟩
      · have h := (if_pos hp).symm.trans h
        refine am_E.go (n := 3) rfl ?_
        obtain ⟨hg, h⟩ := am_ifI h
        refine am_E.grd rfl hg ?_
        refine am_E.go (n := 2) rfl ?_
        obtain ⟨hg, h⟩ := am_ifI h
        refine am_E.grd rfl hg ?_
        obtain ⟨q18, hq, h⟩ := am_bindI h
        obtain ⟨q18_1, q18_2, q18_3⟩ := q18
        refine am_E.callF rfl (by decide) (axX8_puts hq) ?_
        refine am_E.go (n := 1) rfl ?_
        cases h
        first | exact am_E.ret rfl ⟨rfl, rfl⟩ | exact am_E.retG rfl (by decide) ⟨rfl, rfl⟩
      have h := (if_neg hp).symm.trans h
      refine ⟨fun hp => ?_, fun hp => ?_⟩
      · have h := (if_pos hp).symm.trans h
        refine am_E.go (n := 3) rfl ?_
        obtain ⟨hg, h⟩ := am_ifI h
        refine am_E.grd rfl hg ?_
        refine am_E.go (n := 2) rfl ?_
        cases h
        first | exact am_E.ret rfl ⟨rfl, rfl⟩ | exact am_E.retG rfl (by decide) ⟨rfl, rfl⟩
      have h := (if_neg hp).symm.trans h
      refine ⟨fun hp => ?_, fun hp => ?_⟩
      · have h := (if_pos hp).symm.trans h
        refine am_E.go (n := 0) rfl ?_
        obtain ⟨q19, hq, h⟩ := am_bindI h
        obtain ⟨q19_1, q19_2, q19_3⟩ := q19
        refine am_E.callF rfl (by decide) (axX8_spray hq) ?_
        refine am_E.go (n := 2) rfl ?_
        cases h
        first | exact am_E.ret rfl ⟨rfl, rfl⟩ | exact am_E.retG rfl (by decide) ⟨rfl, rfl⟩
      have h := (if_neg hp).symm.trans h
      refine am_E.go (n := 3) rfl ?_
      obtain ⟨hg, h⟩ := am_ifI h
      refine am_E.grd rfl hg ?_
      obtain ⟨q20, hq, h⟩ := am_bindI h
      obtain ⟨q20_1, q20_2, q20_3⟩ := q20
      refine am_E.callF rfl (by decide) (axX8_goes hq) ?_
      refine am_E.go (n := 0) rfl ?_
      cases h
      first | exact am_E.ret rfl ⟨rfl, rfl⟩ | exact am_E.retG rfl (by decide) ⟨rfl, rfl⟩
    · have h := (if_neg hp).symm.trans h
      refine am_E.go (n := 0) rfl ?_
      refine am_E.brk rfl (fun hp => ?_) (fun hp => ?_)
      · have h := (if_pos hp).symm.trans h
        refine am_E.go (n := 3) rfl ?_
        obtain ⟨q21, hq, h⟩ := am_bindI h
        obtain ⟨q21_1, q21_2, q21_3⟩ := q21
        refine am_E.callF rfl (by decide) (axX8_number hq) ?_
        refine am_E.brk rfl (fun hp => ?_) (fun hp => ?_)
        · have h := (if_pos hp).symm.trans h
          refine am_E.go (n := 2) rfl ?_
          obtain ⟨q22, hq, h⟩ := am_bindI h
          refine am_E.callF rfl (by decide) (axX8_isSo hq) ?_
          refine am_E.brk rfl (fun hp => ?_) (fun hp => ?_)
          · have h := (if_pos hp).symm.trans h
            refine am_E.go (n := 4) rfl ?_
            obtain ⟨hg, h⟩ := am_ifI h
            refine am_E.grd rfl hg ?_
            refine am_E.go (n := 1) rfl ?_
            refine am_E.less (ls0 := [_, _, _, _, .retAddr 0]) ?_ ⟨Or.inl rfl, Or.inl rfl, Or.inl rfl, Or.inl rfl, Or.inr ⟨rfl, rfl⟩, trivial⟩
            exact ih h
          · have h := (if_neg hp).symm.trans h
            refine am_E.go (n := 1) rfl ?_
            obtain ⟨q23, hq, h⟩ := am_bindI h
            obtain ⟨q23_1, q23_2, q23_3⟩ := q23
            refine am_E.callF rfl (by decide) (axX8_faulty hq) ?_
            obtain ⟨hg, h⟩ := am_ifI h
            cases h
            exact am_E.retG rfl hg ⟨rfl, rfl⟩
        · have h := (if_neg hp).symm.trans h
          refine am_E.go (n := 0) rfl ?_
          cases h
          first | exact am_E.ret rfl ⟨rfl, rfl⟩ | exact am_E.retG rfl (by decide) ⟨rfl, rfl⟩
      · have h := (if_neg hp).symm.trans h
        refine am_E.go (n := 3) rfl ?_
        refine am_E.brk rfl (fun hp => ?_) (fun hp => ?_)
        · have h := (if_pos hp).symm.trans h
          refine am_E.go (n := 2) rfl ?_
          obtain ⟨q24, hq, h⟩ := am_bindI h
          obtain ⟨q24_1, q24_2, q24_3⟩ := q24
          refine am_E.callF rfl (by decide) (axX8_faulty hq) ?_
          obtain ⟨hg, h⟩ := am_ifI h
          cases h
          exact am_E.retG rfl hg ⟨rfl, rfl⟩
        · have h := (if_neg hp).symm.trans h
          refine am_E.go (n := 6) rfl ?_
          obtain ⟨hg, h⟩ := am_ifI h
          refine am_E.grd rfl hg ?_
          refine am_E.go (n := 1) rfl ?_
          refine am_E.brk rfl (fun hp => ?_) (fun hp => ?_)
          · have h := (if_pos hp).symm.trans h
            refine am_E.go (n := 9) rfl ?_
            obtain ⟨q25, hq, h⟩ := am_bindI h
            obtain ⟨q25_1, q25_2, q25_3⟩ := q25
            refine am_E.callF rfl (by decide) (axX8_number hq) ?_
            refine am_E.brk rfl (fun hp => ?_) (fun hp => ?_)
            · have h := (if_pos hp).symm.trans h
              refine am_E.go (n := 2) rfl ?_
              obtain ⟨q26, hq, h⟩ := am_bindI h
              refine am_E.callF rfl (by decide) (axX8_isSo hq) ?_
              refine am_E.brk rfl (fun hp => ?_) (fun hp => ?_)
              · have h := (if_pos hp).symm.trans h
                refine am_E.go (n := 4) rfl ?_
                obtain ⟨hg, h⟩ := am_ifI h
                refine am_E.grd rfl hg ?_
                refine am_E.go (n := 1) rfl ?_
                refine am_E.less (ls0 := [_, _, _, _, .retAddr 0]) ?_ ⟨Or.inl rfl, Or.inl rfl, Or.inl rfl, Or.inl rfl, Or.inr ⟨rfl, rfl⟩, trivial⟩
                exact ih h
              · have h := (if_neg hp).symm.trans h
                refine am_E.go (n := 1) rfl ?_
                obtain ⟨q27, hq, h⟩ := am_bindI h
                obtain ⟨q27_1, q27_2, q27_3⟩ := q27
                refine am_E.callF rfl (by decide) (axX8_faulty hq) ?_
                obtain ⟨hg, h⟩ := am_ifI h
                cases h
                exact am_E.retG rfl hg ⟨rfl, rfl⟩
            · have h := (if_neg hp).symm.trans h
              refine am_E.go (n := 0) rfl ?_
              cases h
              first | exact am_E.ret rfl ⟨rfl, rfl⟩ | exact am_E.retG rfl (by decide) ⟨rfl, rfl⟩
          · have h := (if_neg hp).symm.trans h
            refine am_E.go (n := 2) rfl ?_
            obtain ⟨q28, hq, h⟩ := am_bindI h
            obtain ⟨q28_1, q28_2, q28_3⟩ := q28
            refine am_E.callF rfl (by decide) (axX8_faulty hq) ?_
            obtain ⟨hg, h⟩ := am_ifI h
            cases h
            exact am_E.retG rfl hg ⟨rfl, rfl⟩
set_option maxHeartbeats 4000000 in
set_option maxRecDepth 100000 in
theorem axX8_item {I : Nat → Nat → Int32} {J : Nat → Nat → Int64} {r : Int32} {I' : Nat → Nat → Int32} {J' : Nat → Nat → Int64} (h : DX8_item I J = some (r, I', J')) : am_F 2 nX8_item [.ref 0, .retAddr 0, .retAddr 0, .retAddr 0, .retAddr 0] (TM, I, J, RM) (some (.int r)) (TM, I', J', RM) := by
  unfold DX8_item at h
  unfold am_F
  refine am_E.go (n := 1) rfl ?_
  obtain ⟨q1, hq, h⟩ := am_bindI h
  refine am_E.callF rfl (by decide) (axX8_isWordAt hq) ?_
  refine am_E.brk rfl (fun hp => ?_) (fun hp => ?_)
  · have h := (if_pos hp).symm.trans h
    refine am_E.go (n := 0) rfl ?_
    obtain ⟨q2, hq, h⟩ := am_bindI h
    obtain ⟨q2_1, q2_2, q2_3⟩ := q2
    refine am_E.callF rfl (by decide) (axX8_word hq) ?_
    refine am_E.go (n := 2) rfl ?_
    refine am_E.brk rfl (fun hp => ?_) (fun hp => ?_)
    · have h := (if_pos hp).symm.trans h
      refine am_E.go (n := 0) rfl ?_
      refine am_E.brk rfl (fun hp => ?_) (fun hp => ?_)
      · have h := (if_pos hp).symm.trans h
        refine am_E.go (n := 1) rfl ?_
        refine am_E.brk rfl (fun hp => ?_) (fun hp => ?_)
        · have h := (if_pos hp).symm.trans h
          refine am_E.go (n := 1) rfl ?_
          refine am_E.brk rfl (fun hp => ?_) (fun hp => ?_)
          · have h := (if_pos hp).symm.trans h
            refine am_E.go (n := 3) rfl ?_
            exact (alX8_item am_FU) h
          · have h := (if_neg hp).symm.trans h
            refine am_E.go (n := 4) rfl ?_
            exact (alX8_item am_FU) h
        · have h := (if_neg hp).symm.trans h
          refine am_E.go (n := 4) rfl ?_
          exact (alX8_item am_FU) h
      · have h := (if_neg hp).symm.trans h
        refine am_E.go (n := 4) rfl ?_
        exact (alX8_item am_FU) h
    · have h := (if_neg hp).symm.trans h
      refine am_E.go (n := 0) rfl ?_
      cases h
      first | exact am_E.ret rfl ⟨rfl, rfl⟩ | exact am_E.retG rfl (by decide) ⟨rfl, rfl⟩
  · have h := (if_neg hp).symm.trans h
    refine am_E.go (n := 2) rfl ?_
    refine am_E.brk rfl (fun hp => ?_) (fun hp => ?_)
    · have h := (if_pos hp).symm.trans h
      refine am_E.go (n := 0) rfl ?_
      obtain ⟨q3, hq, h⟩ := am_bindI h
      obtain ⟨q3_1, q3_2, q3_3⟩ := q3
      refine am_E.callF rfl (by decide) (axX8_word hq) ?_
      refine am_E.go (n := 2) rfl ?_
      refine am_E.brk rfl (fun hp => ?_) (fun hp => ?_)
      · have h := (if_pos hp).symm.trans h
        refine am_E.go (n := 0) rfl ?_
        refine am_E.brk rfl (fun hp => ?_) (fun hp => ?_)
        · have h := (if_pos hp).symm.trans h
          refine am_E.go (n := 1) rfl ?_
          refine am_E.brk rfl (fun hp => ?_) (fun hp => ?_)
          · have h := (if_pos hp).symm.trans h
            refine am_E.go (n := 1) rfl ?_
            refine am_E.brk rfl (fun hp => ?_) (fun hp => ?_)
            · have h := (if_pos hp).symm.trans h
              refine am_E.go (n := 3) rfl ?_
              exact (alX8_item am_FU) h
            · have h := (if_neg hp).symm.trans h
              refine am_E.go (n := 4) rfl ?_
              exact (alX8_item am_FU) h
          · have h := (if_neg hp).symm.trans h
            refine am_E.go (n := 4) rfl ?_
            exact (alX8_item am_FU) h
        · have h := (if_neg hp).symm.trans h
          refine am_E.go (n := 4) rfl ?_
          exact (alX8_item am_FU) h
      · have h := (if_neg hp).symm.trans h
        refine am_E.go (n := 0) rfl ?_
        cases h
        first | exact am_E.ret rfl ⟨rfl, rfl⟩ | exact am_E.retG rfl (by decide) ⟨rfl, rfl⟩
    · have h := (if_neg hp).symm.trans h
      refine am_E.go (n := 2) rfl ?_
      obtain ⟨q4, hq, h⟩ := am_bindI h
      obtain ⟨q4_1, q4_2, q4_3⟩ := q4
      refine am_E.callF rfl (by decide) (axX8_faulty hq) ?_
      obtain ⟨hg, h⟩ := am_ifI h
      cases h
      exact am_E.retG rfl hg ⟨rfl, rfl⟩
def LX8_carries : Nat → (Nat → Nat → Int32) → (Nat → Nat → Int64) → Nat → Nat → Int32 → Int32 → Int32 → Int32 → Option (Int32 × (Nat → Nat → Int32) × (Nat → Nat → Int64))
  | 0, _, _, _, _, _, _, _, _ => none
  | n + 1, I, J, g0, g2, x2, x4, x5, x6 =>
    if x2 ≤ x6 then
      some ((x4 + x2), I, J)
    else
      if x5 = 0 then
        if ¬ (x6 < 0 ∨ (am_nth TM g0).snd ≤ (x6).toNatClampNeg) then
          if ¬ ((x4 + x6) < 0 ∨ 180 ≤ ((x4 + x6)).toNatClampNeg) then
            LX8_carries n ((am_upI I g2 ((x4 + x6)).toNatClampNeg (I g0 (x6).toNatClampNeg))) J g0 g2 x2 x4 x5 ((x6 + (1 : Int32)))
          else none
        else none
      else
        if ¬ ((x4 + x6) < 0 ∨ 180 ≤ ((x4 + x6)).toNatClampNeg) then
          if ¬ (x6 < 0 ∨ (am_nth TM g0).snd ≤ (x6).toNatClampNeg) then
            LX8_carries n ((am_upI I g0 (x6).toNatClampNeg (I g2 ((x4 + x6)).toNatClampNeg))) J g0 g2 x2 x4 x5 ((x6 + (1 : Int32)))
          else none
        else none
def DX8_carries (I : Nat → Nat → Int32) (J : Nat → Nat → Int64) (g0 : Nat) (a1 : Int32) (g2 : Nat) (a3 : Int32) (a4 : Int32) : Option (Int32 × (Nat → Nat → Int32) × (Nat → Nat → Int64)) :=
  LX8_carries am_FU I J g0 g2 a1 a3 a4 ((0 : Int32))
set_option maxHeartbeats 4000000 in
set_option maxRecDepth 100000 in
theorem alX8_carries : ∀ (n : Nat), ∀ {I : Nat → Nat → Int32} {J : Nat → Nat → Int64} {g0 : Nat} {g2 : Nat} {x2 : Int32} {x4 : Int32} {x5 : Int32} {x6 : Int32} {I' : Nat → Nat → Int32} {J' : Nat → Nat → Int64} {r : Int32}, dm_of g0 → dm_to g2 → LX8_carries n I J g0 g2 x2 x4 x5 x6 = some (r, I', J') → am_E 0 nX8_carries (3, [.retAddr 0, .ref g0, .int x2, .ref g2, .int x4, .int x5, .int x6], [], (TM, I, J, RM)) (fun v M' => v = some (.int r) ∧ M' = (TM, I', J', RM)) := by
  intro n
  induction n with
  | zero => intros; contradiction
  | succ n ih =>
    intro I J g0 g2 x2 x4 x5 x6 I' J' r hg0 hg2 h
    simp only [LX8_carries] at h
    unfold dm_of at hg0
    unfold dm_to at hg2
    rcases hg0 with rfl | rfl | rfl | rfl | rfl | rfl | rfl | rfl | rfl <;> rcases hg2 with rfl | rfl
    all_goals
      refine am_E.go (n := 1) rfl ?_
      refine am_E.brk rfl (fun hp => ?_) (fun hp => ?_)
      · have h := (if_pos hp).symm.trans h
        refine am_E.go (n := 2) rfl ?_
        cases h
        exact am_E.ret rfl ⟨rfl, rfl⟩
      · have h := (if_neg hp).symm.trans h
        refine am_E.go (n := 0) rfl ?_
        refine am_E.brk rfl (fun hp => ?_) (fun hp => ?_)
        · have h := (if_pos hp).symm.trans h
          refine am_E.go (n := 5) rfl ?_
          obtain ⟨hg, h⟩ := am_ifI h
          refine am_E.grd rfl hg ?_
          obtain ⟨hg, h⟩ := am_ifI h
          refine am_E.grd rfl hg ?_
          refine am_E.go (n := 1) rfl ?_
          exact ih (by decide) (by decide) h
        · have h := (if_neg hp).symm.trans h
          refine am_E.go (n := 5) rfl ?_
          obtain ⟨hg, h⟩ := am_ifI h
          refine am_E.grd rfl hg ?_
          obtain ⟨hg, h⟩ := am_ifI h
          refine am_E.grd rfl hg ?_
          refine am_E.go (n := 2) rfl ?_
          exact ih (by decide) (by decide) h
set_option maxHeartbeats 4000000 in
set_option maxRecDepth 100000 in
theorem axX8_carries {I : Nat → Nat → Int32} {J : Nat → Nat → Int64} {g0 : Nat} {a1 : Int32} {g2 : Nat} {a3 : Int32} {a4 : Int32} {r : Int32} {I' : Nat → Nat → Int32} {J' : Nat → Nat → Int64} (hg0 : dm_of g0) (hg2 : dm_to g2) (h : DX8_carries I J g0 a1 g2 a3 a4 = some (r, I', J')) : am_F 0 nX8_carries [.ref 0, .ref g0, .int a1, .ref g2, .int a3, .int a4, .retAddr 0] (TM, I, J, RM) (some (.int r)) (TM, I', J', RM) := by
  unfold DX8_carries at h
  unfold am_F
  unfold dm_of at hg0
  unfold dm_to at hg2
  rcases hg0 with rfl | rfl | rfl | rfl | rfl | rfl | rfl | rfl | rfl <;> rcases hg2 with rfl | rfl
  all_goals
    refine am_E.go (n := 1) rfl ?_
    refine am_E.less (ls0 := [.retAddr 0, _, _, _, _, _, _]) ?_ ⟨Or.inr ⟨rfl, rfl⟩, Or.inl rfl, Or.inl rfl, Or.inl rfl, Or.inl rfl, Or.inl rfl, Or.inl rfl, trivial⟩
    exact (alX8_carries am_FU) (by decide) (by decide) h
def DX8_whole (I : Nat → Nat → Int32) (J : Nat → Nat → Int64) (g0 : Nat) (a1 : Int32) : Option (Int32 × (Nat → Nat → Int32) × (Nat → Nat → Int64)) :=
  (DX8_carries I J 2 ((8 : Int32)) g0 ((0 : Int32)) a1).bind fun q1 =>
  (DX8_carries q1.2.1 q1.2.2 3 ((8 : Int32)) g0 q1.1 a1).bind fun q2 =>
  (DX8_carries q2.2.1 q2.2.2 4 ((8 : Int32)) g0 q2.1 a1).bind fun q3 =>
  (DX8_carries q3.2.1 q3.2.2 5 ((24 : Int32)) g0 q3.1 a1).bind fun q4 =>
  (DX8_carries q4.2.1 q4.2.2 6 ((24 : Int32)) g0 q4.1 a1).bind fun q5 =>
  (DX8_carries q5.2.1 q5.2.2 7 ((24 : Int32)) g0 q5.1 a1).bind fun q6 =>
  (DX8_carries q6.2.1 q6.2.2 8 ((24 : Int32)) g0 q6.1 a1).bind fun q7 =>
  (DX8_carries q7.2.1 q7.2.2 9 ((24 : Int32)) g0 q7.1 a1).bind fun q8 =>
  (DX8_carries q8.2.1 q8.2.2 10 ((24 : Int32)) g0 q8.1 a1).bind fun q9 =>
  if a1 = 0 then
    if ¬ (q9.1 < 0 ∨ 180 ≤ (q9.1).toNatClampNeg) then
      if ¬ ((q9.1 + (1 : Int32)) < 0 ∨ 180 ≤ ((q9.1 + (1 : Int32))).toNatClampNeg) then
        (some (am_upI ((am_upI q9.2.1 g0 (q9.1).toNatClampNeg (q9.2.1 0 0))) g0 ((q9.1 + (1 : Int32))).toNatClampNeg (((am_upI q9.2.1 g0 (q9.1).toNatClampNeg (q9.2.1 0 0))) 0 1))).bind fun I10 =>
        if ¬ ((q9.1 + (2 : Int32)) < 0 ∨ 180 ≤ ((q9.1 + (2 : Int32))).toNatClampNeg) then
          if ¬ ((q9.1 + (3 : Int32)) < 0 ∨ 180 ≤ ((q9.1 + (3 : Int32))).toNatClampNeg) then
            (some (am_upI ((am_upI I10 g0 ((q9.1 + (2 : Int32))).toNatClampNeg (I10 0 2))) g0 ((q9.1 + (3 : Int32))).toNatClampNeg (((am_upI I10 g0 ((q9.1 + (2 : Int32))).toNatClampNeg (I10 0 2))) 0 3))).bind fun I11 =>
            if ¬ ((q9.1 + (4 : Int32)) < 0 ∨ 180 ≤ ((q9.1 + (4 : Int32))).toNatClampNeg) then
              if ¬ ((q9.1 + (5 : Int32)) < 0 ∨ 180 ≤ ((q9.1 + (5 : Int32))).toNatClampNeg) then
                (some (am_upI ((am_upI I11 g0 ((q9.1 + (4 : Int32))).toNatClampNeg (I11 0 4))) g0 ((q9.1 + (5 : Int32))).toNatClampNeg (((am_upI I11 g0 ((q9.1 + (4 : Int32))).toNatClampNeg (I11 0 4))) 0 5))).bind fun I12 =>
                some ((0 : Int32), I12, q9.2.2)
              else none
            else none
          else none
        else none
      else none
    else none
  else
    if ¬ (q9.1 < 0 ∨ 180 ≤ (q9.1).toNatClampNeg) then
      if ¬ ((q9.1 + (1 : Int32)) < 0 ∨ 180 ≤ ((q9.1 + (1 : Int32))).toNatClampNeg) then
        (some (am_upI ((am_upI q9.2.1 0 0 (q9.2.1 g0 (q9.1).toNatClampNeg))) 0 1 (((am_upI q9.2.1 0 0 (q9.2.1 g0 (q9.1).toNatClampNeg))) g0 ((q9.1 + (1 : Int32))).toNatClampNeg))).bind fun I13 =>
        if ¬ ((q9.1 + (2 : Int32)) < 0 ∨ 180 ≤ ((q9.1 + (2 : Int32))).toNatClampNeg) then
          if ¬ ((q9.1 + (3 : Int32)) < 0 ∨ 180 ≤ ((q9.1 + (3 : Int32))).toNatClampNeg) then
            (some (am_upI ((am_upI I13 0 2 (I13 g0 ((q9.1 + (2 : Int32))).toNatClampNeg))) 0 3 (((am_upI I13 0 2 (I13 g0 ((q9.1 + (2 : Int32))).toNatClampNeg))) g0 ((q9.1 + (3 : Int32))).toNatClampNeg))).bind fun I14 =>
            if ¬ ((q9.1 + (4 : Int32)) < 0 ∨ 180 ≤ ((q9.1 + (4 : Int32))).toNatClampNeg) then
              if ¬ ((q9.1 + (5 : Int32)) < 0 ∨ 180 ≤ ((q9.1 + (5 : Int32))).toNatClampNeg) then
                (some (am_upI ((am_upI I14 0 4 (I14 g0 ((q9.1 + (4 : Int32))).toNatClampNeg))) 0 5 (((am_upI I14 0 4 (I14 g0 ((q9.1 + (4 : Int32))).toNatClampNeg))) g0 ((q9.1 + (5 : Int32))).toNatClampNeg))).bind fun I15 =>
                some ((0 : Int32), I15, q9.2.2)
              else none
            else none
          else none
        else none
      else none
    else none
set_option maxHeartbeats 4000000 in
set_option maxRecDepth 100000 in
theorem axX8_whole {I : Nat → Nat → Int32} {J : Nat → Nat → Int64} {g0 : Nat} {a1 : Int32} {r : Int32} {I' : Nat → Nat → Int32} {J' : Nat → Nat → Int64} (hg0 : dm_to g0) (h : DX8_whole I J g0 a1 = some (r, I', J')) : am_F 1 nX8_whole [.ref 0, .ref g0, .int a1, .retAddr 0] (TM, I, J, RM) (none) (TM, I', J', RM) := by
  unfold DX8_whole at h
  unfold am_F
  unfold dm_to at hg0
  rcases hg0 with rfl | rfl
  all_goals
    refine am_E.go (n := 6) rfl ?_
    obtain ⟨q1, hq, h⟩ := am_bindI h
    obtain ⟨q1_1, q1_2, q1_3⟩ := q1
    refine am_E.callF rfl (by decide) (axX8_carries (by decide) (by decide) hq) ?_
    refine am_E.go (n := 7) rfl ?_
    obtain ⟨q2, hq, h⟩ := am_bindI h
    obtain ⟨q2_1, q2_2, q2_3⟩ := q2
    refine am_E.callF rfl (by decide) (axX8_carries (by decide) (by decide) hq) ?_
    refine am_E.go (n := 7) rfl ?_
    obtain ⟨q3, hq, h⟩ := am_bindI h
    obtain ⟨q3_1, q3_2, q3_3⟩ := q3
    refine am_E.callF rfl (by decide) (axX8_carries (by decide) (by decide) hq) ?_
    refine am_E.go (n := 7) rfl ?_
    obtain ⟨q4, hq, h⟩ := am_bindI h
    obtain ⟨q4_1, q4_2, q4_3⟩ := q4
    refine am_E.callF rfl (by decide) (axX8_carries (by decide) (by decide) hq) ?_
    refine am_E.go (n := 7) rfl ?_
    obtain ⟨q5, hq, h⟩ := am_bindI h
    obtain ⟨q5_1, q5_2, q5_3⟩ := q5
    refine am_E.callF rfl (by decide) (axX8_carries (by decide) (by decide) hq) ?_
    refine am_E.go (n := 7) rfl ?_
    obtain ⟨q6, hq, h⟩ := am_bindI h
    obtain ⟨q6_1, q6_2, q6_3⟩ := q6
    refine am_E.callF rfl (by decide) (axX8_carries (by decide) (by decide) hq) ?_
    refine am_E.go (n := 7) rfl ?_
    obtain ⟨q7, hq, h⟩ := am_bindI h
    obtain ⟨q7_1, q7_2, q7_3⟩ := q7
    refine am_E.callF rfl (by decide) (axX8_carries (by decide) (by decide) hq) ?_
    refine am_E.go (n := 7) rfl ?_
    obtain ⟨q8, hq, h⟩ := am_bindI h
    obtain ⟨q8_1, q8_2, q8_3⟩ := q8
    refine am_E.callF rfl (by decide) (axX8_carries (by decide) (by decide) hq) ?_
    refine am_E.go (n := 7) rfl ?_
    obtain ⟨q9, hq, h⟩ := am_bindI h
    obtain ⟨q9_1, q9_2, q9_3⟩ := q9
    refine am_E.callF rfl (by decide) (axX8_carries (by decide) (by decide) hq) ?_
    refine am_E.go (n := 1) rfl ?_
    refine am_E.brk rfl (fun hp => ?_) (fun hp => ?_)
    · have h := (if_pos hp).symm.trans h
      refine am_E.go (n := 3) rfl ?_
      obtain ⟨hg, h⟩ := am_ifI h
      refine am_E.grd rfl hg ?_
      refine am_E.go (n := 5) rfl ?_
      obtain ⟨hg, h⟩ := am_ifI h
      refine am_E.grd rfl hg ?_
      obtain ⟨I10, hI, h⟩ := am_bindI h
      obtain rfl := Option.some.inj hI
      refine am_E.go (n := 5) rfl ?_
      obtain ⟨hg, h⟩ := am_ifI h
      refine am_E.grd rfl hg ?_
      refine am_E.go (n := 5) rfl ?_
      obtain ⟨hg, h⟩ := am_ifI h
      refine am_E.grd rfl hg ?_
      obtain ⟨I11, hI, h⟩ := am_bindI h
      obtain rfl := Option.some.inj hI
      refine am_E.go (n := 5) rfl ?_
      obtain ⟨hg, h⟩ := am_ifI h
      refine am_E.grd rfl hg ?_
      refine am_E.go (n := 5) rfl ?_
      obtain ⟨hg, h⟩ := am_ifI h
      refine am_E.grd rfl hg ?_
      obtain ⟨I12, hI, h⟩ := am_bindI h
      obtain rfl := Option.some.inj hI
      cases h
      exact am_E.ret rfl ⟨rfl, rfl⟩
    · have h := (if_neg hp).symm.trans h
      refine am_E.go (n := 2) rfl ?_
      obtain ⟨hg, h⟩ := am_ifI h
      refine am_E.grd rfl hg ?_
      refine am_E.go (n := 5) rfl ?_
      obtain ⟨hg, h⟩ := am_ifI h
      refine am_E.grd rfl hg ?_
      refine am_E.go (n := 5) rfl ?_
      obtain ⟨I13, hI, h⟩ := am_bindI h
      obtain rfl := Option.some.inj hI
      obtain ⟨hg, h⟩ := am_ifI h
      refine am_E.grd rfl hg ?_
      refine am_E.go (n := 5) rfl ?_
      obtain ⟨hg, h⟩ := am_ifI h
      refine am_E.grd rfl hg ?_
      refine am_E.go (n := 5) rfl ?_
      obtain ⟨I14, hI, h⟩ := am_bindI h
      obtain rfl := Option.some.inj hI
      obtain ⟨hg, h⟩ := am_ifI h
      refine am_E.grd rfl hg ?_
      refine am_E.go (n := 5) rfl ?_
      obtain ⟨hg, h⟩ := am_ifI h
      refine am_E.grd rfl hg ?_
      refine am_E.go (n := 1) rfl ?_
      obtain ⟨I15, hI, h⟩ := am_bindI h
      obtain rfl := Option.some.inj hI
      cases h
      exact am_E.ret rfl ⟨rfl, rfl⟩
def LX8_village : Nat → (Nat → Nat → Int32) → (Nat → Nat → Int64) → Int32 → Int32 → Option (Int32 × (Nat → Nat → Int32) × (Nat → Nat → Int64))
  | 0, _, _, _, _ => none
  | n + 1, I, J, x3, x4 =>
    if x4 = 0 then
      if x4 = 0 then
        (DX8_whole I J 19 ((1 : Int32))).bind fun q12 =>
        (DX8_no (am_upI q12.2.1 0 6 (q12.2.1 0 29)) q12.2.2 ((-6 : Int32))).bind fun q13 =>
        some (q13.1, q13.2.1, q13.2.2)
      else
        some (x3, I, J)
    else
      if (I 0 27) ≤ (I 0 26) then
        if x4 = 0 then
          (DX8_whole I J 19 ((1 : Int32))).bind fun q14 =>
          (DX8_no (am_upI q14.2.1 0 6 (q14.2.1 0 29)) q14.2.2 ((-6 : Int32))).bind fun q15 =>
          some (q15.1, q15.2.1, q15.2.2)
        else
          some (x3, I, J)
      else
        if ¬ (((I 0 25) + (I 0 26)) < 0 ∨ 1280 ≤ (((I 0 25) + (I 0 26))).toNatClampNeg) then
          if ((J 15 (((I 0 25) + (I 0 26))).toNatClampNeg)).toInt32 = (59 : Int32) then
            (DX8_item (am_upI I 0 26 ((I 0 26) + (1 : Int32))) J).bind fun q16 =>
            LX8_village n q16.2.1 q16.2.2 ((x3 + (1 : Int32))) q16.1
          else
            (DX8_faulty I J ((I 0 26))).bind fun q17 =>
            LX8_village n q17.2.1 q17.2.2 x3 q17.1
        else none
def DX8_village (I : Nat → Nat → Int32) (J : Nat → Nat → Int64) (a0 : Int32) : Option (Int32 × (Nat → Nat → Int32) × (Nat → Nat → Int64)) :=
  (DX8_wanted I a0).bind fun q1 =>
  if q1 = 0 then
    (DX8_whole I J 19 ((0 : Int32))).bind fun q2 =>
    if ¬ (a0 < 0 ∨ 8 ≤ (a0).toNatClampNeg) then
      (some (am_upI ((am_upI ((am_upI q2.2.1 0 25 ((160 : Int32) * a0))) 0 26 (0 : Int32))) 0 27 (((am_upI ((am_upI q2.2.1 0 25 ((160 : Int32) * a0))) 0 26 (0 : Int32))) 13 (a0).toNatClampNeg))).bind fun I3 =>
      (DX8_item (am_upI I3 0 6 (-1 : Int32)) q2.2.2).bind fun q4 =>
      LX8_village am_FU q4.2.1 q4.2.2 ((1 : Int32)) q4.1
    else none
  else
    (DX8_no I J q1).bind fun q5 =>
    some (q5.1, q5.2.1, q5.2.2)
set_option maxHeartbeats 4000000 in
set_option maxRecDepth 100000 in
theorem alX8_village : ∀ (n : Nat), ∀ {I : Nat → Nat → Int32} {J : Nat → Nat → Int64} {x3 : Int32} {x4 : Int32} {I' : Nat → Nat → Int32} {J' : Nat → Nat → Int64} {r : Int32}, LX8_village n I J x3 x4 = some (r, I', J') → am_E 3 nX8_village (62, [.ref 0, .retAddr 0, .retAddr 0, .int x3, .int x4], [], (TM, I, J, RM)) (fun v M' => v = some (.int r) ∧ M' = (TM, I', J', RM)) := by
  intro n
  induction n with
  | zero => intros; contradiction
  | succ n ih =>
    intro I J x3 x4 I' J' r h
    simp only [LX8_village] at h
    refine am_E.go (n := 0) rfl ?_
    refine am_E.brk rfl (fun hp => ?_) (fun hp => ?_)
    · have h := (if_pos hp).symm.trans h
      refine am_E.go (n := 0) rfl ?_
      refine am_E.brk rfl (fun hp => ?_) (fun hp => ?_)
      · have h := (if_pos hp).symm.trans h
        refine am_E.go (n := 3) rfl ?_
        obtain ⟨q12, hq, h⟩ := am_bindI h
        obtain ⟨q12_1, q12_2, q12_3⟩ := q12
        refine am_E.callF rfl (by decide) (axX8_whole (by decide) hq) ?_
        refine am_E.go (n := 5) rfl ?_
        obtain ⟨q13, hq, h⟩ := am_bindI h
        obtain ⟨q13_1, q13_2, q13_3⟩ := q13
        refine am_E.callF rfl (by decide) (axX8_no hq) ?_
        cases h
        exact am_E.ret rfl ⟨rfl, rfl⟩
      · have h := (if_neg hp).symm.trans h
        refine am_E.go (n := 0) rfl ?_
        cases h
        exact am_E.ret rfl ⟨rfl, rfl⟩
    · have h := (if_neg hp).symm.trans h
      refine am_E.go (n := 3) rfl ?_
      refine am_E.brk rfl (fun hp => ?_) (fun hp => ?_)
      · have h := (if_pos hp).symm.trans h
        refine am_E.go (n := 0) rfl ?_
        refine am_E.brk rfl (fun hp => ?_) (fun hp => ?_)
        · have h := (if_pos hp).symm.trans h
          refine am_E.go (n := 3) rfl ?_
          obtain ⟨q14, hq, h⟩ := am_bindI h
          obtain ⟨q14_1, q14_2, q14_3⟩ := q14
          refine am_E.callF rfl (by decide) (axX8_whole (by decide) hq) ?_
          refine am_E.go (n := 5) rfl ?_
          obtain ⟨q15, hq, h⟩ := am_bindI h
          obtain ⟨q15_1, q15_2, q15_3⟩ := q15
          refine am_E.callF rfl (by decide) (axX8_no hq) ?_
          cases h
          exact am_E.ret rfl ⟨rfl, rfl⟩
        · have h := (if_neg hp).symm.trans h
          refine am_E.go (n := 0) rfl ?_
          cases h
          exact am_E.ret rfl ⟨rfl, rfl⟩
      · have h := (if_neg hp).symm.trans h
        refine am_E.go (n := 6) rfl ?_
        obtain ⟨hg, h⟩ := am_ifI h
        refine am_E.grd rfl hg ?_
        refine am_E.go (n := 1) rfl ?_
        refine am_E.brk rfl (fun hp => ?_) (fun hp => ?_)
        · have h := (if_pos hp).symm.trans h
          refine am_E.go (n := 7) rfl ?_
          obtain ⟨q16, hq, h⟩ := am_bindI h
          obtain ⟨q16_1, q16_2, q16_3⟩ := q16
          refine am_E.callF rfl (by decide) (axX8_item hq) ?_
          refine am_E.go (n := 1) rfl ?_
          exact ih h
        · have h := (if_neg hp).symm.trans h
          refine am_E.go (n := 2) rfl ?_
          obtain ⟨q17, hq, h⟩ := am_bindI h
          obtain ⟨q17_1, q17_2, q17_3⟩ := q17
          refine am_E.callF rfl (by decide) (axX8_faulty hq) ?_
          refine am_E.go (n := 1) rfl ?_
          exact ih h
set_option maxHeartbeats 4000000 in
set_option maxRecDepth 100000 in
theorem axX8_village {I : Nat → Nat → Int32} {J : Nat → Nat → Int64} {a0 : Int32} {r : Int32} {I' : Nat → Nat → Int32} {J' : Nat → Nat → Int64} (h : DX8_village I J a0 = some (r, I', J')) : am_F 3 nX8_village [.ref 0, .int a0, .retAddr 0, .retAddr 0, .retAddr 0] (TM, I, J, RM) (some (.int r)) (TM, I', J', RM) := by
  unfold DX8_village at h
  unfold am_F
  refine am_E.go (n := 1) rfl ?_
  obtain ⟨q1, hq, h⟩ := am_bindI h
  refine am_E.callF rfl (by decide) (axX8_wanted hq) ?_
  refine am_E.go (n := 1) rfl ?_
  refine am_E.brk rfl (fun hp => ?_) (fun hp => ?_)
  · have h := (if_pos hp).symm.trans h
    refine am_E.go (n := 3) rfl ?_
    obtain ⟨q2, hq, h⟩ := am_bindI h
    obtain ⟨q2_1, q2_2, q2_3⟩ := q2
    refine am_E.callF rfl (by decide) (axX8_whole (by decide) hq) ?_
    refine am_E.go (n := 11) rfl ?_
    obtain ⟨hg, h⟩ := am_ifI h
    refine am_E.grd rfl hg ?_
    refine am_E.go (n := 6) rfl ?_
    obtain ⟨I3, hI, h⟩ := am_bindI h
    obtain rfl := Option.some.inj hI
    obtain ⟨q4, hq, h⟩ := am_bindI h
    obtain ⟨q4_1, q4_2, q4_3⟩ := q4
    refine am_E.callF rfl (by decide) (axX8_item hq) ?_
    refine am_E.go (n := 0) rfl ?_
    refine am_E.less (ls0 := [_, .retAddr 0, .retAddr 0, _, _]) ?_ ⟨Or.inl rfl, Or.inr ⟨rfl, rfl⟩, Or.inr ⟨rfl, rfl⟩, Or.inl rfl, Or.inl rfl, trivial⟩
    exact (alX8_village am_FU) h
  · have h := (if_neg hp).symm.trans h
    refine am_E.go (n := 1) rfl ?_
    obtain ⟨q5, hq, h⟩ := am_bindI h
    obtain ⟨q5_1, q5_2, q5_3⟩ := q5
    refine am_E.callF rfl (by decide) (axX8_no hq) ?_
    cases h
    exact am_E.ret rfl ⟨rfl, rfl⟩
def DX8_fault (I : Nat → Nat → Int32) : Int32 :=
  (I 0 6)
set_option maxHeartbeats 4000000 in
set_option maxRecDepth 100000 in
theorem axX8_fault {I : Nat → Nat → Int32} {J : Nat → Nat → Int64} {r : Int32} (h : DX8_fault I = r) : am_F 0 nX8_fault [.ref 0] (TM, I, J, RM) (some (.int r)) (TM, I, J, RM) := by
  unfold DX8_fault at h
  unfold am_F
  refine am_E.go (n := 1) rfl ?_
  subst h
  exact am_E.ret rfl ⟨rfl, rfl⟩
def DX8_freshAt (I : Nat → Nat → Int32) (a0 : Int32) (a1 : Int32) : Option Int32 :=
  if ¬ (a0 < 0 ∨ 24 ≤ (a0).toNatClampNeg) then
    if ¬ (I 6 (a0).toNatClampNeg) = (-1 : Int32) then
      (DX8_inSun I a0).bind fun q1 =>
      if q1 = 0 then
        if ¬ (a0 < 0 ∨ 24 ≤ (a0).toNatClampNeg) then
          if ¬ (a0 < 0 ∨ 24 ≤ (a0).toNatClampNeg) then
            if ¬ (a0 < 0 ∨ 24 ≤ (a0).toNatClampNeg) then
              if ¬ (a0 < 0 ∨ 24 ≤ (a0).toNatClampNeg) then
                (DX8_freshOf I ((I 6 (a0).toNatClampNeg)) ((I 8 (a0).toNatClampNeg)) (((I 9 (a0).toNatClampNeg) + a1)) ((I 10 (a0).toNatClampNeg))).bind fun q2 =>
                some q2
              else none
            else none
          else none
        else none
      else
        if ¬ (a0 < 0 ∨ 24 ≤ (a0).toNatClampNeg) then
          if ¬ (a0 < 0 ∨ 24 ≤ (a0).toNatClampNeg) then
            if ¬ (a0 < 0 ∨ 24 ≤ (a0).toNatClampNeg) then
              if ¬ (a0 < 0 ∨ 24 ≤ (a0).toNatClampNeg) then
                (DX8_freshOf I ((I 6 (a0).toNatClampNeg)) (((I 8 (a0).toNatClampNeg) + a1)) ((I 9 (a0).toNatClampNeg)) ((I 10 (a0).toNatClampNeg))).bind fun q3 =>
                some q3
              else none
            else none
          else none
        else none
    else
      some ((0 : Int32))
  else none
set_option maxHeartbeats 4000000 in
set_option maxRecDepth 100000 in
theorem axX8_freshAt {I : Nat → Nat → Int32} {J : Nat → Nat → Int64} {a0 : Int32} {a1 : Int32} {r : Int32} (h : DX8_freshAt I a0 a1 = some r) : am_F 2 nX8_freshAt [.ref 0, .int a0, .int a1] (TM, I, J, RM) (some (.int r)) (TM, I, J, RM) := by
  unfold DX8_freshAt at h
  unfold am_F
  refine am_E.go (n := 2) rfl ?_
  obtain ⟨hg, h⟩ := am_ifI h
  refine am_E.grd rfl hg ?_
  refine am_E.go (n := 0) rfl ?_
  refine am_E.brk rfl (fun hp => ?_) (fun hp => ?_)
  · have h := (if_pos hp).symm.trans h
    refine am_E.go (n := 1) rfl ?_
    obtain ⟨q1, hq, h⟩ := am_bindI h
    refine am_E.callF rfl (by decide) (axX8_inSun hq) ?_
    refine am_E.brk rfl (fun hp => ?_) (fun hp => ?_)
    · have h := (if_pos hp).symm.trans h
      refine am_E.go (n := 3) rfl ?_
      obtain ⟨hg, h⟩ := am_ifI h
      refine am_E.grd rfl hg ?_
      refine am_E.go (n := 2) rfl ?_
      obtain ⟨hg, h⟩ := am_ifI h
      refine am_E.grd rfl hg ?_
      refine am_E.go (n := 2) rfl ?_
      obtain ⟨hg, h⟩ := am_ifI h
      refine am_E.grd rfl hg ?_
      refine am_E.go (n := 4) rfl ?_
      obtain ⟨hg, h⟩ := am_ifI h
      refine am_E.grd rfl hg ?_
      obtain ⟨q2, hq, h⟩ := am_bindI h
      refine am_E.callF rfl (by decide) (axX8_freshOf hq) ?_
      cases h
      exact am_E.ret rfl ⟨rfl, rfl⟩
    · have h := (if_neg hp).symm.trans h
      refine am_E.go (n := 3) rfl ?_
      obtain ⟨hg, h⟩ := am_ifI h
      refine am_E.grd rfl hg ?_
      refine am_E.go (n := 2) rfl ?_
      obtain ⟨hg, h⟩ := am_ifI h
      refine am_E.grd rfl hg ?_
      refine am_E.go (n := 4) rfl ?_
      obtain ⟨hg, h⟩ := am_ifI h
      refine am_E.grd rfl hg ?_
      refine am_E.go (n := 2) rfl ?_
      obtain ⟨hg, h⟩ := am_ifI h
      refine am_E.grd rfl hg ?_
      obtain ⟨q3, hq, h⟩ := am_bindI h
      refine am_E.callF rfl (by decide) (axX8_freshOf hq) ?_
      refine am_E.go (n := 0) rfl ?_
      cases h
      exact am_E.ret rfl ⟨rfl, rfl⟩
  · have h := (if_neg hp).symm.trans h
    refine am_E.go (n := 0) rfl ?_
    cases h
    exact am_E.ret rfl ⟨rfl, rfl⟩
def DX8_beautyAt (I : Nat → Nat → Int32) (a0 : Int32) (a1 : Int32) : Option Int32 :=
  if ¬ (a0 < 0 ∨ 24 ≤ (a0).toNatClampNeg) then
    if (I 6 (a0).toNatClampNeg) = (-1 : Int32) then
      some ((0 : Int32))
    else
      if ¬ (a0 < 0 ∨ 24 ≤ (a0).toNatClampNeg) then
        if ¬ ((I 6 (a0).toNatClampNeg) < 0 ∨ 8 ≤ ((I 6 (a0).toNatClampNeg)).toNatClampNeg) then
          if ¬ (a0 < 0 ∨ 24 ≤ (a0).toNatClampNeg) then
            if ¬ (I 3 ((I 6 (a0).toNatClampNeg)).toNatClampNeg) = (I 5 (a0).toNatClampNeg) then
              some ((0 : Int32))
            else
              (DX8_freshAt I a0 a1).bind fun q1 =>
              some q1
          else none
        else none
      else none
  else none
set_option maxHeartbeats 4000000 in
set_option maxRecDepth 100000 in
theorem axX8_beautyAt {I : Nat → Nat → Int32} {J : Nat → Nat → Int64} {a0 : Int32} {a1 : Int32} {r : Int32} (h : DX8_beautyAt I a0 a1 = some r) : am_F 3 nX8_beautyAt [.ref 0, .int a0, .int a1] (TM, I, J, RM) (some (.int r)) (TM, I, J, RM) := by
  unfold DX8_beautyAt at h
  unfold am_F
  refine am_E.go (n := 2) rfl ?_
  obtain ⟨hg, h⟩ := am_ifI h
  refine am_E.grd rfl hg ?_
  refine am_E.go (n := 0) rfl ?_
  refine am_E.brk rfl (fun hp => ?_) (fun hp => ?_)
  · have h := (if_pos hp).symm.trans h
    refine am_E.go (n := 0) rfl ?_
    cases h
    exact am_E.ret rfl ⟨rfl, rfl⟩
  · have h := (if_neg hp).symm.trans h
    refine am_E.go (n := 4) rfl ?_
    obtain ⟨hg, h⟩ := am_ifI h
    refine am_E.grd rfl hg ?_
    obtain ⟨hg, h⟩ := am_ifI h
    refine am_E.grd rfl hg ?_
    refine am_E.go (n := 2) rfl ?_
    obtain ⟨hg, h⟩ := am_ifI h
    refine am_E.grd rfl hg ?_
    refine am_E.brk rfl (fun hp => ?_) (fun hp => ?_)
    · have h := (if_pos hp).symm.trans h
      refine am_E.go (n := 0) rfl ?_
      cases h
      exact am_E.ret rfl ⟨rfl, rfl⟩
    · have h := (if_neg hp).symm.trans h
      refine am_E.go (n := 2) rfl ?_
      obtain ⟨q1, hq, h⟩ := am_bindI h
      refine am_E.callF rfl (by decide) (axX8_freshAt hq) ?_
      refine am_E.go (n := 0) rfl ?_
      cases h
      exact am_E.ret rfl ⟨rfl, rfl⟩
def LX8_looksAt : Nat → (Nat → Nat → Int32) → Int32 → Int32 → Int32 → Option Int32
  | 0, _, _, _, _ => none
  | n + 1, I, x1, x2, x3 =>
    if (24 : Int32) ≤ x3 then
      some x2
    else
      (DX8_beautyAt I x3 x1).bind fun q2 =>
      LX8_looksAt n I x1 ((x2 + q2)) ((x3 + (1 : Int32)))
def DX8_looksAt (I : Nat → Nat → Int32) (a0 : Int32) : Option Int32 :=
  LX8_looksAt am_FU I a0 ((0 : Int32)) ((0 : Int32))
set_option maxHeartbeats 4000000 in
set_option maxRecDepth 100000 in
theorem alX8_looksAt : ∀ (n : Nat), ∀ {I : Nat → Nat → Int32} {J : Nat → Nat → Int64} {x1 : Int32} {x2 : Int32} {x3 : Int32} {r : Int32}, LX8_looksAt n I x1 x2 x3 = some r → am_E 4 nX8_looksAt (4, [.ref 0, .int x1, .int x2, .int x3], [], (TM, I, J, RM)) (fun v M' => v = some (.int r) ∧ M' = (TM, I, J, RM)) := by
  intro n
  induction n with
  | zero => intros; contradiction
  | succ n ih =>
    intro I J x1 x2 x3 r h
    simp only [LX8_looksAt] at h
    refine am_E.go (n := 1) rfl ?_
    refine am_E.brk rfl (fun hp => ?_) (fun hp => ?_)
    · have h := (if_pos hp).symm.trans h
      refine am_E.go (n := 0) rfl ?_
      cases h
      exact am_E.ret rfl ⟨rfl, rfl⟩
    · have h := (if_neg hp).symm.trans h
      refine am_E.go (n := 3) rfl ?_
      obtain ⟨q2, hq, h⟩ := am_bindI h
      refine am_E.callF rfl (by decide) (axX8_beautyAt hq) ?_
      refine am_E.go (n := 3) rfl ?_
      exact ih h
set_option maxHeartbeats 4000000 in
set_option maxRecDepth 100000 in
theorem axX8_looksAt {I : Nat → Nat → Int32} {J : Nat → Nat → Int64} {a0 : Int32} {r : Int32} (h : DX8_looksAt I a0 = some r) : am_F 4 nX8_looksAt [.ref 0, .int a0, .retAddr 0, .retAddr 0] (TM, I, J, RM) (some (.int r)) (TM, I, J, RM) := by
  unfold DX8_looksAt at h
  unfold am_F
  refine am_E.go (n := 3) rfl ?_
  exact (alX8_looksAt am_FU) h
def DX8_fresh (I : Nat → Nat → Int32) (J : Nat → Nat → Int64) (a0 : Int32) (a1 : Int32) : Option (Int32 × (Nat → Nat → Int32) × (Nat → Nat → Int64)) :=
  if ¬ (DX8_isCell a0) = 0 then
    if (DX8_isHour a1) = 0 then
      (DX8_no I J ((-6 : Int32))).bind fun q1 =>
      some (q1.1, q1.2.1, q1.2.2)
    else
      (DX8_freshAt I a0 a1).bind fun q2 =>
      some (q2, I, J)
  else
    (DX8_no I J ((-1 : Int32))).bind fun q3 =>
    some (q3.1, q3.2.1, q3.2.2)
set_option maxHeartbeats 4000000 in
set_option maxRecDepth 100000 in
theorem axX8_fresh {I : Nat → Nat → Int32} {J : Nat → Nat → Int64} {a0 : Int32} {a1 : Int32} {r : Int32} {I' : Nat → Nat → Int32} {J' : Nat → Nat → Int64} (h : DX8_fresh I J a0 a1 = some (r, I', J')) : am_F 3 nX8_fresh [.ref 0, .int a0, .int a1] (TM, I, J, RM) (some (.int r)) (TM, I', J', RM) := by
  unfold DX8_fresh at h
  unfold am_F
  refine am_E.go (n := 1) rfl ?_
  refine am_E.callF rfl (by decide) (axX8_isCell rfl) ?_
  refine am_E.brk rfl (fun hp => ?_) (fun hp => ?_)
  · have h := (if_pos hp).symm.trans h
    refine am_E.go (n := 1) rfl ?_
    refine am_E.callF rfl (by decide) (axX8_isHour rfl) ?_
    refine am_E.brk rfl (fun hp => ?_) (fun hp => ?_)
    · have h := (if_pos hp).symm.trans h
      refine am_E.go (n := 1) rfl ?_
      obtain ⟨q1, hq, h⟩ := am_bindI h
      obtain ⟨q1_1, q1_2, q1_3⟩ := q1
      refine am_E.callF rfl (by decide) (axX8_no hq) ?_
      cases h
      exact am_E.ret rfl ⟨rfl, rfl⟩
    · have h := (if_neg hp).symm.trans h
      refine am_E.go (n := 2) rfl ?_
      obtain ⟨q2, hq, h⟩ := am_bindI h
      refine am_E.callF rfl (by decide) (axX8_freshAt hq) ?_
      refine am_E.go (n := 0) rfl ?_
      cases h
      exact am_E.ret rfl ⟨rfl, rfl⟩
  · have h := (if_neg hp).symm.trans h
    refine am_E.go (n := 1) rfl ?_
    obtain ⟨q3, hq, h⟩ := am_bindI h
    obtain ⟨q3_1, q3_2, q3_3⟩ := q3
    refine am_E.callF rfl (by decide) (axX8_no hq) ?_
    cases h
    exact am_E.ret rfl ⟨rfl, rfl⟩
