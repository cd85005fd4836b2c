/-! THE METHODS AS FUNCTIONS over the memory, and the row that their runs do so: laid by program (wip/whole/decomp.py) -/
def LX8_fading : Nat → (Nat → Nat → Int32) → (Nat → Nat → Int64) → Int32 → Int32 → Int32 → Option (Int32 × (Nat → Nat → Int32) × (Nat → Nat → Int64))
  | 0, _, _, _, _, _ => none
  | n + 1, I, J, x1, x4, x5 =>
    if x5 = 0 then
      (DX8_body I J ((11 : Int32))).bind fun q9 =>
      (DX8_laying q9.2.1 q9.2.2 x1 x4).bind fun q10 =>
      if x5 = 0 then
        some ((q10.1 * (2 : Int32)), q10.2.1, q10.2.2)
      else
        some (((q10.1 * (2 : Int32)) * (3 : Int32)), q10.2.1, q10.2.2)
    else
      (DX8_body I J ((30 : Int32))).bind fun q11 =>
      (DX8_body q11.2.1 q11.2.2 ((11 : Int32))).bind fun q12 =>
      (DX8_laying q12.2.1 q12.2.2 x1 x4).bind fun q13 =>
      if x5 = 0 then
        some ((q13.1 * (2 : Int32)), q13.2.1, q13.2.2)
      else
        some (((q13.1 * (2 : Int32)) * (3 : Int32)), q13.2.1, q13.2.2)
def DX8_fading (I : Nat → Nat → Int32) (J : Nat → Nat → Int64) (a0 : Int32) (a1 : Int32) : Option (Int32 × (Nat → Nat → Int32) × (Nat → Nat → Int64)) :=
  if ¬ (a0 < 0 ∨ 8 ≤ (a0).toNatClampNeg) then
    if ¬ (I 2 (a0).toNatClampNeg) = (6 : Int32) then
      if ¬ (I 2 (a0).toNatClampNeg) = (3 : Int32) then
        if (I 2 (a0).toNatClampNeg) = (2 : Int32) then
          LX8_fading am_FU I J a0 a1 ((1 : Int32))
        else
          if ¬ (I 2 (a0).toNatClampNeg) = (6 : Int32) then
            LX8_fading am_FU I J a0 a1 ((0 : Int32))
          else
            LX8_fading am_FU I J a0 a1 ((1 : Int32))
      else
        (DX8_body I J ((40 : Int32))).bind fun q1 =>
        if (I 2 (a0).toNatClampNeg) = (2 : Int32) then
          LX8_fading am_FU q1.2.1 q1.2.2 a0 ((a1 + (1 : Int32))) ((1 : Int32))
        else
          if ¬ (I 2 (a0).toNatClampNeg) = (6 : Int32) then
            LX8_fading am_FU q1.2.1 q1.2.2 a0 ((a1 + (1 : Int32))) ((0 : Int32))
          else
            LX8_fading am_FU q1.2.1 q1.2.2 a0 ((a1 + (1 : Int32))) ((1 : Int32))
    else
      (DX8_body I J ((71 : Int32))).bind fun q2 =>
      if ¬ (a0 < 0 ∨ 8 ≤ (a0).toNatClampNeg) then
        if ¬ (I 2 (a0).toNatClampNeg) = (3 : Int32) then
          if (I 2 (a0).toNatClampNeg) = (2 : Int32) then
            LX8_fading am_FU q2.2.1 q2.2.2 a0 ((a1 - (q2.2.1 4 (a0).toNatClampNeg))) ((1 : Int32))
          else
            if ¬ (I 2 (a0).toNatClampNeg) = (6 : Int32) then
              LX8_fading am_FU q2.2.1 q2.2.2 a0 ((a1 - (q2.2.1 4 (a0).toNatClampNeg))) ((0 : Int32))
            else
              LX8_fading am_FU q2.2.1 q2.2.2 a0 ((a1 - (q2.2.1 4 (a0).toNatClampNeg))) ((1 : Int32))
        else
          (DX8_body q2.2.1 q2.2.2 ((40 : Int32))).bind fun q3 =>
          if (I 2 (a0).toNatClampNeg) = (2 : Int32) then
            LX8_fading am_FU q3.2.1 q3.2.2 a0 ((a1 + (1 : Int32))) ((1 : Int32))
          else
            if ¬ (I 2 (a0).toNatClampNeg) = (6 : Int32) then
              LX8_fading am_FU q3.2.1 q3.2.2 a0 ((a1 + (1 : Int32))) ((0 : Int32))
            else
              LX8_fading am_FU q3.2.1 q3.2.2 a0 ((a1 + (1 : Int32))) ((1 : Int32))
      else none
  else none
set_option maxHeartbeats 4000000 in
set_option maxRecDepth 100000 in
theorem alX8_fading : ∀ (n : Nat), ∀ {I : Nat → Nat → Int32} {J : Nat → Nat → Int64} {x1 : Int32} {x4 : Int32} {x5 : Int32} {I' : Nat → Nat → Int32} {J' : Nat → Nat → Int64} {r : Int32}, LX8_fading n I J x1 x4 x5 = some (r, I', J') → am_E 2 nX8_fading (66, [.ref 0, .int x1, .retAddr 0, .retAddr 0, .int x4, .int x5, .retAddr 0], [], (TM, I, J, RM)) (fun v M' => v = some (.int r) ∧ M' = (TM, I', J', RM)) := by
  intro n
  induction n with
  | zero => intros; contradiction
  | succ n ih =>
    intro I J x1 x4 x5 I' J' r h
    simp only [LX8_fading] at h
    refine am_E.go (n := 0) rfl ?_
    refine am_E.brk rfl (fun hp => ?_) (fun hp => ?_)
    · have h := (if_pos hp).symm.trans h
      refine am_E.go (n := 1) rfl ?_
      obtain ⟨q9, hq, h⟩ := am_bindI h
      obtain ⟨q9_1, q9_2, q9_3⟩ := q9
      refine am_E.callF rfl (by decide) (axX8_body hq) ?_
      refine am_E.go (n := 2) rfl ?_
      obtain ⟨q10, hq, h⟩ := am_bindI h
      obtain ⟨q10_1, q10_2, q10_3⟩ := q10
      refine am_E.callF rfl (by decide) (axX8_laying hq) ?_
      refine am_E.go (n := 3) rfl ?_
      refine am_E.brk rfl (fun hp => ?_) (fun hp => ?_)
      · have h := (if_pos hp).symm.trans h
        refine am_E.go (n := 0) rfl ?_
        cases h
        exact am_E.ret rfl ⟨rfl, rfl⟩
      · have h := (if_neg hp).symm.trans h
        refine am_E.go (n := 3) rfl ?_
        cases h
        exact am_E.ret rfl ⟨rfl, rfl⟩
    · have h := (if_neg hp).symm.trans h
      refine am_E.go (n := 1) rfl ?_
      obtain ⟨q11, hq, h⟩ := am_bindI h
      obtain ⟨q11_1, q11_2, q11_3⟩ := q11
      refine am_E.callF rfl (by decide) (axX8_body hq) ?_
      refine am_E.go (n := 1) rfl ?_
      obtain ⟨q12, hq, h⟩ := am_bindI h
      obtain ⟨q12_1, q12_2, q12_3⟩ := q12
      refine am_E.callF rfl (by decide) (axX8_body hq) ?_
      refine am_E.go (n := 2) rfl ?_
      obtain ⟨q13, hq, h⟩ := am_bindI h
      obtain ⟨q13_1, q13_2, q13_3⟩ := q13
      refine am_E.callF rfl (by decide) (axX8_laying hq) ?_
      refine am_E.go (n := 3) rfl ?_
      refine am_E.brk rfl (fun hp => ?_) (fun hp => ?_)
      · have h := (if_pos hp).symm.trans h
        refine am_E.go (n := 0) rfl ?_
        cases h
        exact am_E.ret rfl ⟨rfl, rfl⟩
      · have h := (if_neg hp).symm.trans h
        refine am_E.go (n := 3) rfl ?_
        cases h
        exact am_E.ret rfl ⟨rfl, rfl⟩
set_option maxHeartbeats 4000000 in
set_option maxRecDepth 100000 in
theorem axX8_fading {I : Nat → Nat → Int32} {J : Nat → Nat → Int64} {a0 : Int32} {a1 : Int32} {r : Int32} {I' : Nat → Nat → Int32} {J' : Nat → Nat → Int64} (h : DX8_fading I J a0 a1 = some (r, I', J')) : am_F 2 nX8_fading [.ref 0, .int a0, .int a1, .retAddr 0, .retAddr 0, .retAddr 0, .retAddr 0] (TM, I, J, RM) (some (.int r)) (TM, I', J', RM) := by
  unfold DX8_fading at h
  unfold am_F
  refine am_E.go (n := 2) rfl ?_
  obtain ⟨hg, h⟩ := am_ifI h
  refine am_E.grd rfl hg ?_
  refine am_E.go (n := 4) rfl ?_
  refine am_E.brk rfl (fun hp => ?_) (fun hp => ?_)
  · have h := (if_pos hp).symm.trans h
    refine am_E.go (n := 1) rfl ?_
    refine am_E.brk rfl (fun hp => ?_) (fun hp => ?_)
    · have h := (if_pos hp).symm.trans h
      refine am_E.go (n := 1) rfl ?_
      refine am_E.brk rfl (fun hp => ?_) (fun hp => ?_)
      · have h := (if_pos hp).symm.trans h
        refine am_E.go (n := 2) rfl ?_
        refine am_E.less (ls0 := [_, _, .retAddr 0, .retAddr 0, _, _, .retAddr 0]) ?_ ⟨Or.inl rfl, Or.inl rfl, Or.inr ⟨rfl, rfl⟩, Or.inr ⟨rfl, rfl⟩, Or.inl rfl, Or.inl rfl, Or.inl rfl, trivial⟩
        exact (alX8_fading am_FU) h
      · have h := (if_neg hp).symm.trans h
        refine am_E.go (n := 1) rfl ?_
        refine am_E.brk rfl (fun hp => ?_) (fun hp => ?_)
        · have h := (if_pos hp).symm.trans h
          refine am_E.go (n := 1) rfl ?_
          refine am_E.less (ls0 := [_, _, .retAddr 0, .retAddr 0, _, _, .retAddr 0]) ?_ ⟨Or.inl rfl, Or.inl rfl, Or.inr ⟨rfl, rfl⟩, Or.inr ⟨rfl, rfl⟩, Or.inl rfl, Or.inl rfl, Or.inl rfl, trivial⟩
          exact (alX8_fading am_FU) h
        · have h := (if_neg hp).symm.trans h
          refine am_E.go (n := 2) rfl ?_
          refine am_E.less (ls0 := [_, _, .retAddr 0, .retAddr 0, _, _, .retAddr 0]) ?_ ⟨Or.inl rfl, Or.inl rfl, Or.inr ⟨rfl, rfl⟩, Or.inr ⟨rfl, rfl⟩, Or.inl rfl, Or.inl rfl, Or.inl rfl, trivial⟩
          exact (alX8_fading am_FU) h
    · have h := (if_neg hp).symm.trans h
      refine am_E.go (n := 1) rfl ?_
      obtain ⟨q1, hq, h⟩ := am_bindI h
      obtain ⟨q1_1, q1_2, q1_3⟩ := q1
      refine am_E.callF rfl (by decide) (axX8_body hq) ?_
      refine am_E.go (n := 5) rfl ?_
      refine am_E.brk rfl (fun hp => ?_) (fun hp => ?_)
      · have h := (if_pos hp).symm.trans h
        refine am_E.go (n := 2) rfl ?_
        refine am_E.less (ls0 := [_, _, .retAddr 0, .retAddr 0, _, _, .retAddr 0]) ?_ ⟨Or.inl rfl, Or.inl rfl, Or.inr ⟨rfl, rfl⟩, Or.inr ⟨rfl, rfl⟩, Or.inl rfl, Or.inl rfl, Or.inl rfl, trivial⟩
        exact (alX8_fading am_FU) h
      · have h := (if_neg hp).symm.trans h
        refine am_E.go (n := 1) rfl ?_
        refine am_E.brk rfl (fun hp => ?_) (fun hp => ?_)
        · have h := (if_pos hp).symm.trans h
          refine am_E.go (n := 1) rfl ?_
          refine am_E.less (ls0 := [_, _, .retAddr 0, .retAddr 0, _, _, .retAddr 0]) ?_ ⟨Or.inl rfl, Or.inl rfl, Or.inr ⟨rfl, rfl⟩, Or.inr ⟨rfl, rfl⟩, Or.inl rfl, Or.inl rfl, Or.inl rfl, trivial⟩
          exact (alX8_fading am_FU) h
        · have h := (if_neg hp).symm.trans h
          refine am_E.go (n := 2) rfl ?_
          refine am_E.less (ls0 := [_, _, .retAddr 0, .retAddr 0, _, _, .retAddr 0]) ?_ ⟨Or.inl rfl, Or.inl rfl, Or.inr ⟨rfl, rfl⟩, Or.inr ⟨rfl, rfl⟩, Or.inl rfl, Or.inl rfl, Or.inl rfl, trivial⟩
          exact (alX8_fading am_FU) h
  · have h := (if_neg hp).symm.trans h
    refine am_E.go (n := 1) rfl ?_
    obtain ⟨q2, hq, h⟩ := am_bindI h
    obtain ⟨q2_1, q2_2, q2_3⟩ := q2
    refine am_E.callF rfl (by decide) (axX8_body hq) ?_
    refine am_E.go (n := 3) rfl ?_
    obtain ⟨hg, h⟩ := am_ifI h
    refine am_E.grd rfl hg ?_
    refine am_E.go (n := 3) rfl ?_
    refine am_E.brk rfl (fun hp => ?_) (fun hp => ?_)
    · have h := (if_pos hp).symm.trans h
      refine am_E.go (n := 1) rfl ?_
      refine am_E.brk rfl (fun hp => ?_) (fun hp => ?_)
      · have h := (if_pos hp).symm.trans h
        refine am_E.go (n := 2) rfl ?_
        refine am_E.less (ls0 := [_, _, .retAddr 0, .retAddr 0, _, _, .retAddr 0]) ?_ ⟨Or.inl rfl, Or.inl rfl, Or.inr ⟨rfl, rfl⟩, Or.inr ⟨rfl, rfl⟩, Or.inl rfl, Or.inl rfl, Or.inl rfl, trivial⟩
        exact (alX8_fading am_FU) h
      · have h := (if_neg hp).symm.trans h
        refine am_E.go (n := 1) rfl ?_
        refine am_E.brk rfl (fun hp => ?_) (fun hp => ?_)
        · have h := (if_pos hp).symm.trans h
          refine am_E.go (n := 1) rfl ?_
          refine am_E.less (ls0 := [_, _, .retAddr 0, .retAddr 0, _, _, .retAddr 0]) ?_ ⟨Or.inl rfl, Or.inl rfl, Or.inr ⟨rfl, rfl⟩, Or.inr ⟨rfl, rfl⟩, Or.inl rfl, Or.inl rfl, Or.inl rfl, trivial⟩
          exact (alX8_fading am_FU) h
        · have h := (if_neg hp).symm.trans h
          refine am_E.go (n := 2) rfl ?_
          refine am_E.less (ls0 := [_, _, .retAddr 0, .retAddr 0, _, _, .retAddr 0]) ?_ ⟨Or.inl rfl, Or.inl rfl, Or.inr ⟨rfl, rfl⟩, Or.inr ⟨rfl, rfl⟩, Or.inl rfl, Or.inl rfl, Or.inl rfl, trivial⟩
          exact (alX8_fading am_FU) h
    · have h := (if_neg hp).symm.trans h
      refine am_E.go (n := 1) rfl ?_
      obtain ⟨q3, hq, h⟩ := am_bindI h
      obtain ⟨q3_1, q3_2, q3_3⟩ := q3
      refine am_E.callF rfl (by decide) (axX8_body hq) ?_
      refine am_E.go (n := 5) rfl ?_
      refine am_E.brk rfl (fun hp => ?_) (fun hp => ?_)
      · have h := (if_pos hp).symm.trans h
        refine am_E.go (n := 2) rfl ?_
        refine am_E.less (ls0 := [_, _, .retAddr 0, .retAddr 0, _, _, .retAddr 0]) ?_ ⟨Or.inl rfl, Or.inl rfl, Or.inr ⟨rfl, rfl⟩, Or.inr ⟨rfl, rfl⟩, Or.inl rfl, Or.inl rfl, Or.inl rfl, trivial⟩
        exact (alX8_fading am_FU) h
      · have h := (if_neg hp).symm.trans h
        refine am_E.go (n := 1) rfl ?_
        refine am_E.brk rfl (fun hp => ?_) (fun hp => ?_)
        · have h := (if_pos hp).symm.trans h
          refine am_E.go (n := 1) rfl ?_
          refine am_E.less (ls0 := [_, _, .retAddr 0, .retAddr 0, _, _, .retAddr 0]) ?_ ⟨Or.inl rfl, Or.inl rfl, Or.inr ⟨rfl, rfl⟩, Or.inr ⟨rfl, rfl⟩, Or.inl rfl, Or.inl rfl, Or.inl rfl, trivial⟩
          exact (alX8_fading am_FU) h
        · have h := (if_neg hp).symm.trans h
          refine am_E.go (n := 2) rfl ?_
          refine am_E.less (ls0 := [_, _, .retAddr 0, .retAddr 0, _, _, .retAddr 0]) ?_ ⟨Or.inl rfl, Or.inl rfl, Or.inr ⟨rfl, rfl⟩, Or.inr ⟨rfl, rfl⟩, Or.inl rfl, Or.inl rfl, Or.inl rfl, trivial⟩
          exact (alX8_fading am_FU) h
def LX8_showing : Nat → (Nat → Nat → Int32) → (Nat → Nat → Int64) → Int32 → Int32 → Option (Int32 × (Nat → Nat → Int32) × (Nat → Nat → Int64))
  | 0, _, _, _, _ => none
  | n + 1, I, J, x3, x4 =>
    if ¬ x3 = (5 : Int32) then
      some (x4, I, J)
    else
      some ((x4 ^^^ (5 : Int32)), I, J)
def DX8_showing (I : Nat → Nat → Int32) (J : Nat → Nat → Int64) (a0 : Int32) (a1 : Int32) : Option (Int32 × (Nat → Nat → Int32) × (Nat → Nat → Int64)) :=
  if ¬ (a0 < 0 ∨ 8 ≤ (a0).toNatClampNeg) then
    if ¬ (I 2 (a0).toNatClampNeg) = (5 : Int32) then
      if (I 2 (a0).toNatClampNeg) = (4 : Int32) then
        (DX8_body I J ((50 : Int32))).bind fun q1 =>
        (DX8_body q1.2.1 q1.2.2 ((12 : Int32))).bind fun q2 =>
        (DX8_fading q2.2.1 q2.2.2 a0 a1).bind fun q3 =>
        if ¬ (a0 < 0 ∨ 8 ≤ (a0).toNatClampNeg) then
          (DX8_laying q3.2.1 q3.2.2 a0 ((a1 - (q3.2.1 4 (a0).toNatClampNeg)))).bind fun q4 =>
          if (I 2 (a0).toNatClampNeg) = (4 : Int32) then
            LX8_showing am_FU q4.2.1 q4.2.2 ((I 2 (a0).toNatClampNeg)) ((-(q3.1 ^^^ q4.1)))
          else
            if ¬ (I 2 (a0).toNatClampNeg) = (5 : Int32) then
              LX8_showing am_FU q4.2.1 q4.2.2 ((I 2 (a0).toNatClampNeg)) ((q3.1 ^^^ q4.1))
            else
              LX8_showing am_FU q4.2.1 q4.2.2 ((I 2 (a0).toNatClampNeg)) ((-(q3.1 ^^^ q4.1)))
        else none
      else
        if ¬ (I 2 (a0).toNatClampNeg) = (5 : Int32) then
          (DX8_body I J ((12 : Int32))).bind fun q5 =>
          (DX8_fading q5.2.1 q5.2.2 a0 a1).bind fun q6 =>
          if ¬ (a0 < 0 ∨ 8 ≤ (a0).toNatClampNeg) then
            (DX8_laying q6.2.1 q6.2.2 a0 ((a1 - (q6.2.1 4 (a0).toNatClampNeg)))).bind fun q7 =>
            if (I 2 (a0).toNatClampNeg) = (4 : Int32) then
              LX8_showing am_FU q7.2.1 q7.2.2 ((I 2 (a0).toNatClampNeg)) ((-(q6.1 ^^^ q7.1)))
            else
              if ¬ (I 2 (a0).toNatClampNeg) = (5 : Int32) then
                LX8_showing am_FU q7.2.1 q7.2.2 ((I 2 (a0).toNatClampNeg)) ((q6.1 ^^^ q7.1))
              else
                LX8_showing am_FU q7.2.1 q7.2.2 ((I 2 (a0).toNatClampNeg)) ((-(q6.1 ^^^ q7.1)))
          else none
        else
          (DX8_body I J ((50 : Int32))).bind fun q8 =>
          (DX8_body q8.2.1 q8.2.2 ((12 : Int32))).bind fun q9 =>
          (DX8_fading q9.2.1 q9.2.2 a0 a1).bind fun q10 =>
          if ¬ (a0 < 0 ∨ 8 ≤ (a0).toNatClampNeg) then
            (DX8_laying q10.2.1 q10.2.2 a0 ((a1 - (q10.2.1 4 (a0).toNatClampNeg)))).bind fun q11 =>
            if (I 2 (a0).toNatClampNeg) = (4 : Int32) then
              LX8_showing am_FU q11.2.1 q11.2.2 ((I 2 (a0).toNatClampNeg)) ((-(q10.1 ^^^ q11.1)))
            else
              if ¬ (I 2 (a0).toNatClampNeg) = (5 : Int32) then
                LX8_showing am_FU q11.2.1 q11.2.2 ((I 2 (a0).toNatClampNeg)) ((q10.1 ^^^ q11.1))
              else
                LX8_showing am_FU q11.2.1 q11.2.2 ((I 2 (a0).toNatClampNeg)) ((-(q10.1 ^^^ q11.1)))
          else none
    else
      (DX8_body I J ((60 : Int32))).bind fun q12 =>
      if (I 2 (a0).toNatClampNeg) = (4 : Int32) then
        (DX8_body q12.2.1 q12.2.2 ((50 : Int32))).bind fun q13 =>
        (DX8_body q13.2.1 q13.2.2 ((12 : Int32))).bind fun q14 =>
        (DX8_fading q14.2.1 q14.2.2 a0 a1).bind fun q15 =>
        if ¬ (a0 < 0 ∨ 8 ≤ (a0).toNatClampNeg) then
          (DX8_laying q15.2.1 q15.2.2 a0 ((a1 - (q15.2.1 4 (a0).toNatClampNeg)))).bind fun q16 =>
          if (I 2 (a0).toNatClampNeg) = (4 : Int32) then
            LX8_showing am_FU q16.2.1 q16.2.2 ((I 2 (a0).toNatClampNeg)) ((-(q15.1 ^^^ q16.1)))
          else
            if ¬ (I 2 (a0).toNatClampNeg) = (5 : Int32) then
              LX8_showing am_FU q16.2.1 q16.2.2 ((I 2 (a0).toNatClampNeg)) ((q15.1 ^^^ q16.1))
            else
              LX8_showing am_FU q16.2.1 q16.2.2 ((I 2 (a0).toNatClampNeg)) ((-(q15.1 ^^^ q16.1)))
        else none
      else
        if ¬ (I 2 (a0).toNatClampNeg) = (5 : Int32) then
          (DX8_body q12.2.1 q12.2.2 ((12 : Int32))).bind fun q17 =>
          (DX8_fading q17.2.1 q17.2.2 a0 a1).bind fun q18 =>
          if ¬ (a0 < 0 ∨ 8 ≤ (a0).toNatClampNeg) then
            (DX8_laying q18.2.1 q18.2.2 a0 ((a1 - (q18.2.1 4 (a0).toNatClampNeg)))).bind fun q19 =>
            if (I 2 (a0).toNatClampNeg) = (4 : Int32) then
              LX8_showing am_FU q19.2.1 q19.2.2 ((I 2 (a0).toNatClampNeg)) ((-(q18.1 ^^^ q19.1)))
            else
              if ¬ (I 2 (a0).toNatClampNeg) = (5 : Int32) then
                LX8_showing am_FU q19.2.1 q19.2.2 ((I 2 (a0).toNatClampNeg)) ((q18.1 ^^^ q19.1))
              else
                LX8_showing am_FU q19.2.1 q19.2.2 ((I 2 (a0).toNatClampNeg)) ((-(q18.1 ^^^ q19.1)))
          else none
        else
          (DX8_body q12.2.1 q12.2.2 ((50 : Int32))).bind fun q20 =>
          (DX8_body q20.2.1 q20.2.2 ((12 : Int32))).bind fun q21 =>
          (DX8_fading q21.2.1 q21.2.2 a0 a1).bind fun q22 =>
          if ¬ (a0 < 0 ∨ 8 ≤ (a0).toNatClampNeg) then
            (DX8_laying q22.2.1 q22.2.2 a0 ((a1 - (q22.2.1 4 (a0).toNatClampNeg)))).bind fun q23 =>
            if (I 2 (a0).toNatClampNeg) = (4 : Int32) then
              LX8_showing am_FU q23.2.1 q23.2.2 ((I 2 (a0).toNatClampNeg)) ((-(q22.1 ^^^ q23.1)))
            else
              if ¬ (I 2 (a0).toNatClampNeg) = (5 : Int32) then
                LX8_showing am_FU q23.2.1 q23.2.2 ((I 2 (a0).toNatClampNeg)) ((q22.1 ^^^ q23.1))
              else
                LX8_showing am_FU q23.2.1 q23.2.2 ((I 2 (a0).toNatClampNeg)) ((-(q22.1 ^^^ q23.1)))
          else none
  else none
set_option maxHeartbeats 4000000 in
set_option maxRecDepth 100000 in
theorem alX8_showing : ∀ (n : Nat), ∀ {I : Nat → Nat → Int32} {J : Nat → Nat → Int64} {x3 : Int32} {x4 : Int32} {I' : Nat → Nat → Int32} {J' : Nat → Nat → Int64} {r : Int32}, LX8_showing n I J x3 x4 = some (r, I', J') → am_E 3 nX8_showing (81, [.retAddr 0, .retAddr 0, .retAddr 0, .int x3, .int x4], [], (TM, I, J, RM)) (fun v M' => v = some (.int r) ∧ M' = (TM, I', J', RM)) := by
  intro n
  induction n with
  | zero => intros; contradiction
  | succ n ih =>
    intro I J x3 x4 I' J' r h
    simp only [LX8_showing] at h
    refine am_E.go (n := 1) rfl ?_
    refine am_E.brk rfl (fun hp => ?_) (fun hp => ?_)
    · have h := (if_pos hp).symm.trans h
      refine am_E.go (n := 0) rfl ?_
      cases h
      exact am_E.ret rfl ⟨rfl, rfl⟩
    · have h := (if_neg hp).symm.trans h
      refine am_E.go (n := 3) rfl ?_
      cases h
      exact am_E.ret rfl ⟨rfl, rfl⟩
set_option maxHeartbeats 4000000 in
set_option maxRecDepth 100000 in
theorem axX8_showing {I : Nat → Nat → Int32} {J : Nat → Nat → Int64} {a0 : Int32} {a1 : Int32} {r : Int32} {I' : Nat → Nat → Int32} {J' : Nat → Nat → Int64} (h : DX8_showing I J a0 a1 = some (r, I', J')) : am_F 3 nX8_showing [.ref 0, .int a0, .int a1, .retAddr 0, .retAddr 0] (TM, I, J, RM) (some (.int r)) (TM, I', J', RM) := by
  unfold DX8_showing at h
  unfold am_F
  refine am_E.go (n := 2) rfl ?_
  obtain ⟨hg, h⟩ := am_ifI h
  refine am_E.grd rfl hg ?_
  refine am_E.go (n := 2) rfl ?_
  refine am_E.brk rfl (fun hp => ?_) (fun hp => ?_)
  · have h := (if_pos hp).symm.trans h
    refine am_E.go (n := 1) rfl ?_
    refine am_E.brk rfl (fun hp => ?_) (fun hp => ?_)
    · have h := (if_pos hp).symm.trans h
      refine am_E.go (n := 1) rfl ?_
      obtain ⟨q1, hq, h⟩ := am_bindI h
      obtain ⟨q1_1, q1_2, q1_3⟩ := q1
      refine am_E.callF rfl (by decide) (axX8_body hq) ?_
      refine am_E.go (n := 1) rfl ?_
      obtain ⟨q2, hq, h⟩ := am_bindI h
      obtain ⟨q2_1, q2_2, q2_3⟩ := q2
      refine am_E.callF rfl (by decide) (axX8_body hq) ?_
      refine am_E.go (n := 2) rfl ?_
      obtain ⟨q3, hq, h⟩ := am_bindI h
      obtain ⟨q3_1, q3_2, q3_3⟩ := q3
      refine am_E.callF rfl (by decide) (axX8_fading hq) ?_
      refine am_E.go (n := 7) rfl ?_
      obtain ⟨hg, h⟩ := am_ifI h
      refine am_E.grd rfl hg ?_
      refine am_E.go (n := 0) rfl ?_
      obtain ⟨q4, hq, h⟩ := am_bindI h
      obtain ⟨q4_1, q4_2, q4_3⟩ := q4
      refine am_E.callF rfl (by decide) (axX8_laying hq) ?_
      refine am_E.go (n := 3) rfl ?_
      refine am_E.brk rfl (fun hp => ?_) (fun hp => ?_)
      · have h := (if_pos hp).symm.trans h
        refine am_E.go (n := 2) rfl ?_
        refine am_E.less (ls0 := [.retAddr 0, .retAddr 0, .retAddr 0, _, _]) ?_ ⟨Or.inr ⟨rfl, rfl⟩, Or.inr ⟨rfl, rfl⟩, Or.inr ⟨rfl, rfl⟩, Or.inl rfl, Or.inl rfl, trivial⟩
        exact (alX8_showing am_FU) h
      · have h := (if_neg hp).symm.trans h
        refine am_E.go (n := 1) rfl ?_
        refine am_E.brk rfl (fun hp => ?_) (fun hp => ?_)
        · have h := (if_pos hp).symm.trans h
          refine am_E.less (ls0 := [.retAddr 0, .retAddr 0, .retAddr 0, _, _]) ?_ ⟨Or.inr ⟨rfl, rfl⟩, Or.inr ⟨rfl, rfl⟩, Or.inr ⟨rfl, rfl⟩, Or.inl rfl, Or.inl rfl, trivial⟩
          exact (alX8_showing am_FU) h
        · have h := (if_neg hp).symm.trans h
          refine am_E.go (n := 2) rfl ?_
          refine am_E.less (ls0 := [.retAddr 0, .retAddr 0, .retAddr 0, _, _]) ?_ ⟨Or.inr ⟨rfl, rfl⟩, Or.inr ⟨rfl, rfl⟩, Or.inr ⟨rfl, rfl⟩, Or.inl rfl, Or.inl rfl, trivial⟩
          exact (alX8_showing am_FU) h
    · have h := (if_neg hp).symm.trans h
      refine am_E.go (n := 1) rfl ?_
      refine am_E.brk rfl (fun hp => ?_) (fun hp => ?_)
      · have h := (if_pos hp).symm.trans h
        refine am_E.go (n := 1) rfl ?_
        obtain ⟨q5, hq, h⟩ := am_bindI h
        obtain ⟨q5_1, q5_2, q5_3⟩ := q5
        refine am_E.callF rfl (by decide) (axX8_body hq) ?_
        refine am_E.go (n := 2) rfl ?_
        obtain ⟨q6, hq, h⟩ := am_bindI h
        obtain ⟨q6_1, q6_2, q6_3⟩ := q6
        refine am_E.callF rfl (by decide) (axX8_fading hq) ?_
        refine am_E.go (n := 7) rfl ?_
        obtain ⟨hg, h⟩ := am_ifI h
        refine am_E.grd rfl hg ?_
        refine am_E.go (n := 0) rfl ?_
        obtain ⟨q7, hq, h⟩ := am_bindI h
        obtain ⟨q7_1, q7_2, q7_3⟩ := q7
        refine am_E.callF rfl (by decide) (axX8_laying hq) ?_
        refine am_E.go (n := 3) rfl ?_
        refine am_E.brk rfl (fun hp => ?_) (fun hp => ?_)
        · have h := (if_pos hp).symm.trans h
          refine am_E.go (n := 2) rfl ?_
          refine am_E.less (ls0 := [.retAddr 0, .retAddr 0, .retAddr 0, _, _]) ?_ ⟨Or.inr ⟨rfl, rfl⟩, Or.inr ⟨rfl, rfl⟩, Or.inr ⟨rfl, rfl⟩, Or.inl rfl, Or.inl rfl, trivial⟩
          exact (alX8_showing am_FU) h
        · have h := (if_neg hp).symm.trans h
          refine am_E.go (n := 1) rfl ?_
          refine am_E.brk rfl (fun hp => ?_) (fun hp => ?_)
          · have h := (if_pos hp).symm.trans h
            refine am_E.less (ls0 := [.retAddr 0, .retAddr 0, .retAddr 0, _, _]) ?_ ⟨Or.inr ⟨rfl, rfl⟩, Or.inr ⟨rfl, rfl⟩, Or.inr ⟨rfl, rfl⟩, Or.inl rfl, Or.inl rfl, trivial⟩
            exact (alX8_showing am_FU) h
          · have h := (if_neg hp).symm.trans h
            refine am_E.go (n := 2) rfl ?_
            refine am_E.less (ls0 := [.retAddr 0, .retAddr 0, .retAddr 0, _, _]) ?_ ⟨Or.inr ⟨rfl, rfl⟩, Or.inr ⟨rfl, rfl⟩, Or.inr ⟨rfl, rfl⟩, Or.inl rfl, Or.inl rfl, trivial⟩
            exact (alX8_showing am_FU) h
      · have h := (if_neg hp).symm.trans h
        refine am_E.go (n := 1) rfl ?_
        obtain ⟨q8, hq, h⟩ := am_bindI h
        obtain ⟨q8_1, q8_2, q8_3⟩ := q8
        refine am_E.callF rfl (by decide) (axX8_body hq) ?_
        refine am_E.go (n := 1) rfl ?_
        obtain ⟨q9, hq, h⟩ := am_bindI h
        obtain ⟨q9_1, q9_2, q9_3⟩ := q9
        refine am_E.callF rfl (by decide) (axX8_body hq) ?_
        refine am_E.go (n := 2) rfl ?_
        obtain ⟨q10, hq, h⟩ := am_bindI h
        obtain ⟨q10_1, q10_2, q10_3⟩ := q10
        refine am_E.callF rfl (by decide) (axX8_fading hq) ?_
        refine am_E.go (n := 7) rfl ?_
        obtain ⟨hg, h⟩ := am_ifI h
        refine am_E.grd rfl hg ?_
        refine am_E.go (n := 0) rfl ?_
        obtain ⟨q11, hq, h⟩ := am_bindI h
        obtain ⟨q11_1, q11_2, q11_3⟩ := q11
        refine am_E.callF rfl (by decide) (axX8_laying hq) ?_
        refine am_E.go (n := 3) rfl ?_
        refine am_E.brk rfl (fun hp => ?_) (fun hp => ?_)
        · have h := (if_pos hp).symm.trans h
          refine am_E.go (n := 2) rfl ?_
          refine am_E.less (ls0 := [.retAddr 0, .retAddr 0, .retAddr 0, _, _]) ?_ ⟨Or.inr ⟨rfl, rfl⟩, Or.inr ⟨rfl, rfl⟩, Or.inr ⟨rfl, rfl⟩, Or.inl rfl, Or.inl rfl, trivial⟩
          exact (alX8_showing am_FU) h
        · have h := (if_neg hp).symm.trans h
          refine am_E.go (n := 1) rfl ?_
          refine am_E.brk rfl (fun hp => ?_) (fun hp => ?_)
          · have h := (if_pos hp).symm.trans h
            refine am_E.less (ls0 := [.retAddr 0, .retAddr 0, .retAddr 0, _, _]) ?_ ⟨Or.inr ⟨rfl, rfl⟩, Or.inr ⟨rfl, rfl⟩, Or.inr ⟨rfl, rfl⟩, Or.inl rfl, Or.inl rfl, trivial⟩
            exact (alX8_showing am_FU) h
          · have h := (if_neg hp).symm.trans h
            refine am_E.go (n := 2) rfl ?_
            refine am_E.less (ls0 := [.retAddr 0, .retAddr 0, .retAddr 0, _, _]) ?_ ⟨Or.inr ⟨rfl, rfl⟩, Or.inr ⟨rfl, rfl⟩, Or.inr ⟨rfl, rfl⟩, Or.inl rfl, Or.inl rfl, trivial⟩
            exact (alX8_showing am_FU) h
  · have h := (if_neg hp).symm.trans h
    refine am_E.go (n := 1) rfl ?_
    obtain ⟨q12, hq, h⟩ := am_bindI h
    obtain ⟨q12_1, q12_2, q12_3⟩ := q12
    refine am_E.callF rfl (by decide) (axX8_body hq) ?_
    refine am_E.go (n := 1) rfl ?_
    refine am_E.brk rfl (fun hp => ?_) (fun hp => ?_)
    · have h := (if_pos hp).symm.trans h
      refine am_E.go (n := 1) rfl ?_
      obtain ⟨q13, hq, h⟩ := am_bindI h
      obtain ⟨q13_1, q13_2, q13_3⟩ := q13
      refine am_E.callF rfl (by decide) (axX8_body hq) ?_
      refine am_E.go (n := 1) rfl ?_
      obtain ⟨q14, hq, h⟩ := am_bindI h
      obtain ⟨q14_1, q14_2, q14_3⟩ := q14
      refine am_E.callF rfl (by decide) (axX8_body hq) ?_
      refine am_E.go (n := 2) rfl ?_
      obtain ⟨q15, hq, h⟩ := am_bindI h
      obtain ⟨q15_1, q15_2, q15_3⟩ := q15
      refine am_E.callF rfl (by decide) (axX8_fading hq) ?_
      refine am_E.go (n := 7) rfl ?_
      obtain ⟨hg, h⟩ := am_ifI h
      refine am_E.grd rfl hg ?_
      refine am_E.go (n := 0) rfl ?_
      obtain ⟨q16, hq, h⟩ := am_bindI h
      obtain ⟨q16_1, q16_2, q16_3⟩ := q16
      refine am_E.callF rfl (by decide) (axX8_laying hq) ?_
      refine am_E.go (n := 3) rfl ?_
      refine am_E.brk rfl (fun hp => ?_) (fun hp => ?_)
      · have h := (if_pos hp).symm.trans h
        refine am_E.go (n := 2) rfl ?_
        refine am_E.less (ls0 := [.retAddr 0, .retAddr 0, .retAddr 0, _, _]) ?_ ⟨Or.inr ⟨rfl, rfl⟩, Or.inr ⟨rfl, rfl⟩, Or.inr ⟨rfl, rfl⟩, Or.inl rfl, Or.inl rfl, trivial⟩
        exact (alX8_showing am_FU) h
      · have h := (if_neg hp).symm.trans h
        refine am_E.go (n := 1) rfl ?_
        refine am_E.brk rfl (fun hp => ?_) (fun hp => ?_)
        · have h := (if_pos hp).symm.trans h
          refine am_E.less (ls0 := [.retAddr 0, .retAddr 0, .retAddr 0, _, _]) ?_ ⟨Or.inr ⟨rfl, rfl⟩, Or.inr ⟨rfl, rfl⟩, Or.inr ⟨rfl, rfl⟩, Or.inl rfl, Or.inl rfl, trivial⟩
          exact (alX8_showing am_FU) h
        · have h := (if_neg hp).symm.trans h
          refine am_E.go (n := 2) rfl ?_
          refine am_E.less (ls0 := [.retAddr 0, .retAddr 0, .retAddr 0, _, _]) ?_ ⟨Or.inr ⟨rfl, rfl⟩, Or.inr ⟨rfl, rfl⟩, Or.inr ⟨rfl, rfl⟩, Or.inl rfl, Or.inl rfl, trivial⟩
          exact (alX8_showing am_FU) h
    · have h := (if_neg hp).symm.trans h
      refine am_E.go (n := 1) rfl ?_
      refine am_E.brk rfl (fun hp => ?_) (fun hp => ?_)
      · have h := (if_pos hp).symm.trans h
        refine am_E.go (n := 1) rfl ?_
        obtain ⟨q17, hq, h⟩ := am_bindI h
        obtain ⟨q17_1, q17_2, q17_3⟩ := q17
        refine am_E.callF rfl (by decide) (axX8_body hq) ?_
        refine am_E.go (n := 2) rfl ?_
        obtain ⟨q18, hq, h⟩ := am_bindI h
        obtain ⟨q18_1, q18_2, q18_3⟩ := q18
        refine am_E.callF rfl (by decide) (axX8_fading hq) ?_
        refine am_E.go (n := 7) rfl ?_
        obtain ⟨hg, h⟩ := am_ifI h
        refine am_E.grd rfl hg ?_
        refine am_E.go (n := 0) rfl ?_
        obtain ⟨q19, hq, h⟩ := am_bindI h
        obtain ⟨q19_1, q19_2, q19_3⟩ := q19
        refine am_E.callF rfl (by decide) (axX8_laying hq) ?_
        refine am_E.go (n := 3) rfl ?_
        refine am_E.brk rfl (fun hp => ?_) (fun hp => ?_)
        · have h := (if_pos hp).symm.trans h
          refine am_E.go (n := 2) rfl ?_
          refine am_E.less (ls0 := [.retAddr 0, .retAddr 0, .retAddr 0, _, _]) ?_ ⟨Or.inr ⟨rfl, rfl⟩, Or.inr ⟨rfl, rfl⟩, Or.inr ⟨rfl, rfl⟩, Or.inl rfl, Or.inl rfl, trivial⟩
          exact (alX8_showing am_FU) h
        · have h := (if_neg hp).symm.trans h
          refine am_E.go (n := 1) rfl ?_
          refine am_E.brk rfl (fun hp => ?_) (fun hp => ?_)
          · have h := (if_pos hp).symm.trans h
            refine am_E.less (ls0 := [.retAddr 0, .retAddr 0, .retAddr 0, _, _]) ?_ ⟨Or.inr ⟨rfl, rfl⟩, Or.inr ⟨rfl, rfl⟩, Or.inr ⟨rfl, rfl⟩, Or.inl rfl, Or.inl rfl, trivial⟩
            exact (alX8_showing am_FU) h
          · have h := (if_neg hp).symm.trans h
            refine am_E.go (n := 2) rfl ?_
            refine am_E.less (ls0 := [.retAddr 0, .retAddr 0, .retAddr 0, _, _]) ?_ ⟨Or.inr ⟨rfl, rfl⟩, Or.inr ⟨rfl, rfl⟩, Or.inr ⟨rfl, rfl⟩, Or.inl rfl, Or.inl rfl, trivial⟩
            exact (alX8_showing am_FU) h
      · have h := (if_neg hp).symm.trans h
        refine am_E.go (n := 1) rfl ?_
        obtain ⟨q20, hq, h⟩ := am_bindI h
        obtain ⟨q20_1, q20_2, q20_3⟩ := q20
        refine am_E.callF rfl (by decide) (axX8_body hq) ?_
        refine am_E.go (n := 1) rfl ?_
        obtain ⟨q21, hq, h⟩ := am_bindI h
        obtain ⟨q21_1, q21_2, q21_3⟩ := q21
        refine am_E.callF rfl (by decide) (axX8_body hq) ?_
        refine am_E.go (n := 2) rfl ?_
        obtain ⟨q22, hq, h⟩ := am_bindI h
        obtain ⟨q22_1, q22_2, q22_3⟩ := q22
        refine am_E.callF rfl (by decide) (axX8_fading hq) ?_
        refine am_E.go (n := 7) rfl ?_
        obtain ⟨hg, h⟩ := am_ifI h
        refine am_E.grd rfl hg ?_
        refine am_E.go (n := 0) rfl ?_
        obtain ⟨q23, hq, h⟩ := am_bindI h
        obtain ⟨q23_1, q23_2, q23_3⟩ := q23
        refine am_E.callF rfl (by decide) (axX8_laying hq) ?_
        refine am_E.go (n := 3) rfl ?_
        refine am_E.brk rfl (fun hp => ?_) (fun hp => ?_)
        · have h := (if_pos hp).symm.trans h
          refine am_E.go (n := 2) rfl ?_
          refine am_E.less (ls0 := [.retAddr 0, .retAddr 0, .retAddr 0, _, _]) ?_ ⟨Or.inr ⟨rfl, rfl⟩, Or.inr ⟨rfl, rfl⟩, Or.inr ⟨rfl, rfl⟩, Or.inl rfl, Or.inl rfl, trivial⟩
          exact (alX8_showing am_FU) h
        · have h := (if_neg hp).symm.trans h
          refine am_E.go (n := 1) rfl ?_
          refine am_E.brk rfl (fun hp => ?_) (fun hp => ?_)
          · have h := (if_pos hp).symm.trans h
            refine am_E.less (ls0 := [.retAddr 0, .retAddr 0, .retAddr 0, _, _]) ?_ ⟨Or.inr ⟨rfl, rfl⟩, Or.inr ⟨rfl, rfl⟩, Or.inr ⟨rfl, rfl⟩, Or.inl rfl, Or.inl rfl, trivial⟩
            exact (alX8_showing am_FU) h
          · have h := (if_neg hp).symm.trans h
            refine am_E.go (n := 2) rfl ?_
            refine am_E.less (ls0 := [.retAddr 0, .retAddr 0, .retAddr 0, _, _]) ?_ ⟨Or.inr ⟨rfl, rfl⟩, Or.inr ⟨rfl, rfl⟩, Or.inr ⟨rfl, rfl⟩, Or.inl rfl, Or.inl rfl, trivial⟩
            exact (alX8_showing am_FU) h
def DX8_act (I : Nat → Nat → Int32) (J : Nat → Nat → Int64) (a0 : Int32) (a1 : Int32) (a2 : Int32) : Option (Int32 × (Nat → Nat → Int32) × (Nat → Nat → Int64)) :=
  if (DX8_isStuff (am_upI I 0 37 (0 : Int32)) a0) = 0 then
    some ((0 : Int32), (am_upI I 0 37 (0 : Int32)), J)
  else
    if a1 < 0 then
      some ((0 : Int32), (am_upI I 0 37 (0 : Int32)), J)
    else
      if a1 ≤ (2 : Int32) then
        if ¬ a1 = 0 then
          if ¬ a1 = (1 : Int32) then
            (DX8_showing (am_upI I 0 37 (0 : Int32)) J a0 a2).bind fun q1 =>
            some (q1.1, q1.2.1, q1.2.2)
          else
            (DX8_fading (am_upI I 0 37 (0 : Int32)) J a0 a2).bind fun q2 =>
            some (q2.1, q2.2.1, q2.2.2)
        else
          (DX8_laying (am_upI I 0 37 (0 : Int32)) J a0 a2).bind fun q3 =>
          some (q3.1, q3.2.1, q3.2.2)
      else
        some ((0 : Int32), (am_upI I 0 37 (0 : Int32)), J)
set_option maxHeartbeats 4000000 in
set_option maxRecDepth 100000 in
theorem axX8_act {I : Nat → Nat → Int32} {J : Nat → Nat → Int64} {a0 : Int32} {a1 : Int32} {a2 : Int32} {r : Int32} {I' : Nat → Nat → Int32} {J' : Nat → Nat → Int64} (h : DX8_act I J a0 a1 a2 = some (r, I', J')) : am_F 4 nX8_act [.ref 0, .int a0, .int a1, .int a2] (TM, I, J, RM) (some (.int r)) (TM, I', J', RM) := by
  unfold DX8_act at h
  unfold am_F
  refine am_E.go (n := 4) rfl ?_
  refine am_E.callF rfl (by decide) (axX8_isStuff rfl) ?_
  refine am_E.brk rfl (fun hp => ?_) (fun hp => ?_)
  · have h := (if_pos hp).symm.trans h
    refine am_E.go (n := 0) rfl ?_
    cases h
    exact am_E.ret rfl ⟨rfl, rfl⟩
  · have h := (if_neg hp).symm.trans h
    refine am_E.go (n := 0) rfl ?_
    refine am_E.brk rfl (fun hp => ?_) (fun hp => ?_)
    · have h := (if_pos hp).symm.trans h
      refine am_E.go (n := 0) rfl ?_
      cases h
      exact am_E.ret rfl ⟨rfl, rfl⟩
    · have h := (if_neg hp).symm.trans h
      refine am_E.go (n := 1) rfl ?_
      refine am_E.brk rfl (fun hp => ?_) (fun hp => ?_)
      · have h := (if_pos hp).symm.trans h
        refine am_E.go (n := 0) rfl ?_
        refine am_E.brk rfl (fun hp => ?_) (fun hp => ?_)
        · have h := (if_pos hp).symm.trans h
          refine am_E.go (n := 1) rfl ?_
          refine am_E.brk rfl (fun hp => ?_) (fun hp => ?_)
          · have h := (if_pos hp).symm.trans h
            refine am_E.go (n := 2) rfl ?_
            obtain ⟨q1, hq, h⟩ := am_bindI h
            obtain ⟨q1_1, q1_2, q1_3⟩ := q1
            refine am_E.callF rfl (by decide) (axX8_showing hq) ?_
            cases h
            exact am_E.ret rfl ⟨rfl, rfl⟩
          · have h := (if_neg hp).symm.trans h
            refine am_E.go (n := 2) rfl ?_
            obtain ⟨q2, hq, h⟩ := am_bindI h
            obtain ⟨q2_1, q2_2, q2_3⟩ := q2
            refine am_E.callF rfl (by decide) (axX8_fading hq) ?_
            refine am_E.go (n := 0) rfl ?_
            cases h
            exact am_E.ret rfl ⟨rfl, rfl⟩
        · have h := (if_neg hp).symm.trans h
          refine am_E.go (n := 2) rfl ?_
          obtain ⟨q3, hq, h⟩ := am_bindI h
          obtain ⟨q3_1, q3_2, q3_3⟩ := q3
          refine am_E.callF rfl (by decide) (axX8_laying hq) ?_
          refine am_E.go (n := 0) rfl ?_
          cases h
          exact am_E.ret rfl ⟨rfl, rfl⟩
      · have h := (if_neg hp).symm.trans h
        refine am_E.go (n := 0) rfl ?_
        cases h
        exact am_E.ret rfl ⟨rfl, rfl⟩
def DX8_trace (I : Nat → Nat → Int32) (a0 : Int32) : Option Int32 :=
  if a0 < 0 then
    some ((-1 : Int32))
  else
    if (20 : Int32) ≤ a0 then
      some ((-1 : Int32))
    else
      if (I 0 37) ≤ a0 then
        some ((-1 : Int32))
      else
        if ¬ (a0 < 0 ∨ 20 ≤ (a0).toNatClampNeg) then
          some ((I 25 (a0).toNatClampNeg))
        else none
set_option maxHeartbeats 4000000 in
set_option maxRecDepth 100000 in
theorem axX8_trace {I : Nat → Nat → Int32} {J : Nat → Nat → Int64} {a0 : Int32} {r : Int32} (h : DX8_trace I a0 = some r) : am_F 0 nX8_trace [.ref 0, .int a0] (TM, I, J, RM) (some (.int r)) (TM, I, J, RM) := by
  unfold DX8_trace at h
  unfold am_F
  refine am_E.go (n := 0) rfl ?_
  refine am_E.brk rfl (fun hp => ?_) (fun hp => ?_)
  · have h := (if_pos hp).symm.trans h
    refine am_E.go (n := 0) rfl ?_
    cases h
    exact am_E.ret rfl ⟨rfl, rfl⟩
  · have h := (if_neg hp).symm.trans h
    refine am_E.go (n := 1) rfl ?_
    refine am_E.brk rfl (fun hp => ?_) (fun hp => ?_)
    · have h := (if_pos hp).symm.trans h
      refine am_E.go (n := 0) rfl ?_
      cases h
      exact am_E.ret rfl ⟨rfl, rfl⟩
    · have h := (if_neg hp).symm.trans h
      refine am_E.go (n := 2) rfl ?_
      refine am_E.brk rfl (fun hp => ?_) (fun hp => ?_)
      · have h := (if_pos hp).symm.trans h
        refine am_E.go (n := 0) rfl ?_
        cases h
        exact am_E.ret rfl ⟨rfl, rfl⟩
      · have h := (if_neg hp).symm.trans h
        refine am_E.go (n := 2) rfl ?_
        obtain ⟨hg, h⟩ := am_ifI h
        refine am_E.grd rfl hg ?_
        refine am_E.go (n := 0) rfl ?_
        cases h
        exact am_E.ret rfl ⟨rfl, rfl⟩
def DX8_image (I : Nat → Nat → Int32) (J : Nat → Nat → Int64) : Option (Int32 × (Nat → Nat → Int32) × (Nat → Nat → Int64)) :=
  if (1 : Int32) = 0 ∨ (1 : Int32) = 1 then
    (DX8_whole (am_upI I 0 38 (1 : Int32)) J 20 ((0 : Int32))).bind fun q1 =>
    some ((q1.2.1 0 0), q1.2.1, q1.2.2)
  else none
set_option maxHeartbeats 4000000 in
set_option maxRecDepth 100000 in
theorem axX8_image {I : Nat → Nat → Int32} {J : Nat → Nat → Int64} {r : Int32} {I' : Nat → Nat → Int32} {J' : Nat → Nat → Int64} (h : DX8_image I J = some (r, I', J')) : am_F 2 nX8_image [.ref 0] (TM, I, J, RM) (some (.int r)) (TM, I', J', RM) := by
  unfold DX8_image at h
  unfold am_F
  refine am_E.go (n := 1) rfl ?_
  obtain ⟨hg, h⟩ := am_ifI h
  refine am_E.grd rfl hg ?_
  refine am_E.go (n := 3) rfl ?_
  obtain ⟨q1, hq, h⟩ := am_bindI h
  obtain ⟨q1_1, q1_2, q1_3⟩ := q1
  refine am_E.callF rfl (by decide) (axX8_whole (by decide) hq) ?_
  refine am_E.go (n := 1) rfl ?_
  cases h
  exact am_E.ret rfl ⟨rfl, rfl⟩
def LX8_restore : Nat → (Nat → Nat → Int32) → (Nat → Nat → Int64) → Int32 → Option (Int32 × (Nat → Nat → Int32) × (Nat → Nat → Int64))
  | 0, _, _, _ => none
  | n + 1, I, J, x1 =>
    if (8 : Int32) ≤ x1 then
      some ((I 0 0), I, J)
    else
      if ¬ (x1 < 0 ∨ 8 ≤ (x1).toNatClampNeg) then
        if ¬ (I 11 (x1).toNatClampNeg) = (2 : Int32) then
          LX8_restore n I J ((x1 + (1 : Int32)))
        else
          if ¬ (x1 < 0 ∨ 8 ≤ (x1).toNatClampNeg) then
            if (I 14 (x1).toNatClampNeg) < (I 0 0) then
              LX8_restore n I J ((x1 + (1 : Int32)))
            else
              if ¬ (x1 < 0 ∨ 8 ≤ (x1).toNatClampNeg) then
                LX8_restore n ((am_upI I 11 (x1).toNatClampNeg (0 : Int32))) J ((x1 + (1 : Int32)))
              else none
          else none
      else none
def DX8_restore (I : Nat → Nat → Int32) (J : Nat → Nat → Int64) : Option (Int32 × (Nat → Nat → Int32) × (Nat → Nat → Int64)) :=
  if ¬ (I 0 38) = 0 then
    (DX8_whole I J 20 ((1 : Int32))).bind fun q1 =>
    LX8_restore am_FU q1.2.1 q1.2.2 ((0 : Int32))
  else
    (DX8_no I J ((-6 : Int32))).bind fun q2 =>
    some (q2.1, q2.2.1, q2.2.2)
set_option maxHeartbeats 4000000 in
set_option maxRecDepth 100000 in
theorem alX8_restore : ∀ (n : Nat), ∀ {I : Nat → Nat → Int32} {J : Nat → Nat → Int64} {x1 : Int32} {I' : Nat → Nat → Int32} {J' : Nat → Nat → Int64} {r : Int32}, LX8_restore n I J x1 = some (r, I', J') → am_E 2 nX8_restore (25, [.ref 0, .int x1], [], (TM, I, J, RM)) (fun v M' => v = some (.int r) ∧ M' = (TM, I', J', RM)) := by
  intro n
  induction n with
  | zero => intros; contradiction
  | succ n ih =>
    intro I J x1 I' J' r h
    simp only [LX8_restore] at h
    refine am_E.go (n := 1) rfl ?_
    refine am_E.brk rfl (fun hp => ?_) (fun hp => ?_)
    · have h := (if_pos hp).symm.trans h
      refine am_E.go (n := 1) rfl ?_
      cases h
      exact am_E.ret rfl ⟨rfl, rfl⟩
    · have h := (if_neg hp).symm.trans h
      refine am_E.go (n := 2) rfl ?_
      obtain ⟨hg, h⟩ := am_ifI h
      refine am_E.grd rfl hg ?_
      refine am_E.go (n := 0) rfl ?_
      refine am_E.brk rfl (fun hp => ?_) (fun hp => ?_)
      · have h := (if_pos hp).symm.trans h
        refine am_E.go (n := 1) rfl ?_
        exact ih h
      · have h := (if_neg hp).symm.trans h
        refine am_E.go (n := 2) rfl ?_
        obtain ⟨hg, h⟩ := am_ifI h
        refine am_E.grd rfl hg ?_
        refine am_E.go (n := 1) rfl ?_
        refine am_E.brk rfl (fun hp => ?_) (fun hp => ?_)
        · have h := (if_pos hp).symm.trans h
          refine am_E.go (n := 1) rfl ?_
          exact ih h
        · have h := (if_neg hp).symm.trans h
          refine am_E.go (n := 3) rfl ?_
          obtain ⟨hg, h⟩ := am_ifI h
          refine am_E.grd rfl hg ?_
          refine am_E.go (n := 1) rfl ?_
          exact ih h
set_option maxHeartbeats 4000000 in
set_option maxRecDepth 100000 in
theorem axX8_restore {I : Nat → Nat → Int32} {J : Nat → Nat → Int64} {r : Int32} {I' : Nat → Nat → Int32} {J' : Nat → Nat → Int64} (h : DX8_restore I J = some (r, I', J')) : am_F 2 nX8_restore [.ref 0, .retAddr 0] (TM, I, J, RM) (some (.int r)) (TM, I', J', RM) := by
  unfold DX8_restore at h
  unfold am_F
  refine am_E.go (n := 1) rfl ?_
  refine am_E.brk rfl (fun hp => ?_) (fun hp => ?_)
  · have h := (if_pos hp).symm.trans h
    refine am_E.go (n := 3) rfl ?_
    obtain ⟨q1, hq, h⟩ := am_bindI h
    obtain ⟨q1_1, q1_2, q1_3⟩ := q1
    refine am_E.callF rfl (by decide) (axX8_whole (by decide) hq) ?_
    refine am_E.go (n := 1) rfl ?_
    exact (alX8_restore am_FU) h
  · have h := (if_neg hp).symm.trans h
    refine am_E.go (n := 1) rfl ?_
    obtain ⟨q2, hq, h⟩ := am_bindI h
    obtain ⟨q2_1, q2_2, q2_3⟩ := q2
    refine am_E.callF rfl (by decide) (axX8_no hq) ?_
    cases h
    exact am_E.ret rfl ⟨rfl, rfl⟩
def DX8_status (I : Nat → Nat → Int32) (a0 : Int32) : Option Int32 :=
  if a0 < (11 : Int32) then
    if a0 = 0 then
      (some ((I 0 0)))
    else if a0 = 1 then
      ((DX8_laidMany I).bind fun q1 =>
      some q1)
    else if a0 = 2 then
      (some ((I 0 2)))
    else if a0 = 3 then
      (some ((I 0 1)))
    else if a0 = 4 then
      (some ((I 0 3)))
    else if a0 = 5 then
      (some ((I 0 4)))
    else if a0 = 6 then
      (some ((I 0 5)))
    else if a0 = 7 then
      (some ((I 0 37)))
    else some ((-1 : Int32))
  else
    if (17 : Int32) < a0 then
      if a0 = 0 then
        (some ((I 0 0)))
      else if a0 = 1 then
        ((DX8_laidMany I).bind fun q2 =>
        some q2)
      else if a0 = 2 then
        (some ((I 0 2)))
      else if a0 = 3 then
        (some ((I 0 1)))
      else if a0 = 4 then
        (some ((I 0 3)))
      else if a0 = 5 then
        (some ((I 0 4)))
      else if a0 = 6 then
        (some ((I 0 5)))
      else if a0 = 7 then
        (some ((I 0 37)))
      else some ((-1 : Int32))
    else
      if ¬ ((a0 - (10 : Int32)) < 0 ∨ 8 ≤ ((a0 - (10 : Int32))).toNatClampNeg) then
        some ((I 1 ((a0 - (10 : Int32))).toNatClampNeg))
      else none
set_option maxHeartbeats 4000000 in
set_option maxRecDepth 100000 in
theorem axX8_status {I : Nat → Nat → Int32} {J : Nat → Nat → Int64} {a0 : Int32} {r : Int32} (h : DX8_status I a0 = some r) : am_F 2 nX8_status [.ref 0, .int a0] (TM, I, J, RM) (some (.int r)) (TM, I, J, RM) := by
  unfold DX8_status at h
  unfold am_F
  refine am_E.go (n := 1) rfl ?_
  refine am_E.brk rfl (fun hp => ?_) (fun hp => ?_)
  · have h := (if_pos hp).symm.trans h
    refine am_E.go (n := 0) rfl ?_
    refine am_E.sw rfl ?_
    refine ⟨fun hp => ?_, fun hp => ?_⟩
    · have h := (if_pos hp).symm.trans h
      refine am_E.go (n := 1) rfl ?_
      cases h
      exact am_E.ret rfl ⟨rfl, rfl⟩
    have h := (if_neg hp).symm.trans h
    refine ⟨fun hp => ?_, fun hp => ?_⟩
    · have h := (if_pos hp).symm.trans h
      refine am_E.go (n := 0) rfl ?_
      obtain ⟨q1, hq, h⟩ := am_bindI h
      refine am_E.callF rfl (by decide) (axX8_laidMany hq) ?_
      cases h
      exact am_E.ret rfl ⟨rfl, rfl⟩
    have h := (if_neg hp).symm.trans h
    refine ⟨fun hp => ?_, fun hp => ?_⟩
    · have h := (if_pos hp).symm.trans h
      refine am_E.go (n := 1) rfl ?_
      cases h
      exact am_E.ret rfl ⟨rfl, rfl⟩
    have h := (if_neg hp).symm.trans h
    refine ⟨fun hp => ?_, fun hp => ?_⟩
    · have h := (if_pos hp).symm.trans h
      refine am_E.go (n := 1) rfl ?_
      cases h
      exact am_E.ret rfl ⟨rfl, rfl⟩
    have h := (if_neg hp).symm.trans h
    refine ⟨fun hp => ?_, fun hp => ?_⟩
    · have h := (if_pos hp).symm.trans h
      refine am_E.go (n := 1) rfl ?_
      cases h
      exact am_E.ret rfl ⟨rfl, rfl⟩
    have h := (if_neg hp).symm.trans h
    refine ⟨fun hp => ?_, fun hp => ?_⟩
    · have h := (if_pos hp).symm.trans h
      refine am_E.go (n := 1) rfl ?_
      cases h
      exact am_E.ret rfl ⟨rfl, rfl⟩
    have h := (if_neg hp).symm.trans h
    refine ⟨fun hp => ?_, fun hp => ?_⟩
    · have h := (if_pos hp).symm.trans h
      refine am_E.go (n := 1) rfl ?_
      cases h
      exact am_E.ret rfl ⟨rfl, rfl⟩
    have h := (if_neg hp).symm.trans h
    refine ⟨fun hp => ?_, fun hp => ?_⟩
    · have h := (if_pos hp).symm.trans h
      refine am_E.go (n := 1) rfl ?_
      cases h
      exact am_E.ret rfl ⟨rfl, rfl⟩
    have h := (if_neg hp).symm.trans h
    refine am_E.go (n := 0) rfl ?_
    cases h
    exact am_E.ret rfl ⟨rfl, rfl⟩
  · have h := (if_neg hp).symm.trans h
    refine am_E.go (n := 1) rfl ?_
    refine am_E.brk rfl (fun hp => ?_) (fun hp => ?_)
    · have h := (if_pos hp).symm.trans h
      refine am_E.go (n := 0) rfl ?_
      refine am_E.sw rfl ?_
      refine ⟨fun hp => ?_, fun hp => ?_⟩
      · have h := (if_pos hp).symm.trans h
        refine am_E.go (n := 1) rfl ?_
        cases h
        exact am_E.ret rfl ⟨rfl, rfl⟩
      have h := (if_neg hp).symm.trans h
      refine ⟨fun hp => ?_, fun hp => ?_⟩
      · have h := (if_pos hp).symm.trans h
        refine am_E.go (n := 0) rfl ?_
        obtain ⟨q2, hq, h⟩ := am_bindI h
        refine am_E.callF rfl (by decide) (axX8_laidMany hq) ?_
        cases h
        exact am_E.ret rfl ⟨rfl, rfl⟩
      have h := (if_neg hp).symm.trans h
      refine ⟨fun hp => ?_, fun hp => ?_⟩
      · have h := (if_pos hp).symm.trans h
        refine am_E.go (n := 1) rfl ?_
        cases h
        exact am_E.ret rfl ⟨rfl, rfl⟩
      have h := (if_neg hp).symm.trans h
      refine ⟨fun hp => ?_, fun hp => ?_⟩
      · have h := (if_pos hp).symm.trans h
        refine am_E.go (n := 1) rfl ?_
        cases h
        exact am_E.ret rfl ⟨rfl, rfl⟩
      have h := (if_neg hp).symm.trans h
      refine ⟨fun hp => ?_, fun hp => ?_⟩
      · have h := (if_pos hp).symm.trans h
        refine am_E.go (n := 1) rfl ?_
        cases h
        exact am_E.ret rfl ⟨rfl, rfl⟩
      have h := (if_neg hp).symm.trans h
      refine ⟨fun hp => ?_, fun hp => ?_⟩
      · have h := (if_pos hp).symm.trans h
        refine am_E.go (n := 1) rfl ?_
        cases h
        exact am_E.ret rfl ⟨rfl, rfl⟩
      have h := (if_neg hp).symm.trans h
      refine ⟨fun hp => ?_, fun hp => ?_⟩
      · have h := (if_pos hp).symm.trans h
        refine am_E.go (n := 1) rfl ?_
        cases h
        exact am_E.ret rfl ⟨rfl, rfl⟩
      have h := (if_neg hp).symm.trans h
      refine ⟨fun hp => ?_, fun hp => ?_⟩
      · have h := (if_pos hp).symm.trans h
        refine am_E.go (n := 1) rfl ?_
        cases h
        exact am_E.ret rfl ⟨rfl, rfl⟩
      have h := (if_neg hp).symm.trans h
      refine am_E.go (n := 0) rfl ?_
      cases h
      exact am_E.ret rfl ⟨rfl, rfl⟩
    · have h := (if_neg hp).symm.trans h
      refine am_E.go (n := 4) rfl ?_
      obtain ⟨hg, h⟩ := am_ifI h
      refine am_E.grd rfl hg ?_
      cases h
      exact am_E.ret rfl ⟨rfl, rfl⟩
