/-! THE METHODS AS FUNCTIONS over the memory, and the row that their runs do so: laid by program (wip/whole/decomp.py) -/
def DX8_element (I : Nat → Nat → Int32) (J : Nat → Nat → Int64) (a0 : Int32) (a1 : Int32) : Option Int64 :=
  if (DX8_isShelf a0) = 0 then
    some ((0 : Int64))
  else
    if ¬ (a0 < 0 ∨ 8 ≤ (a0).toNatClampNeg) then
      if ¬ (I 11 (a0).toNatClampNeg) = (1 : Int32) then
        some ((0 : Int64))
      else
        if a1 < 0 then
          some ((0 : Int64))
        else
          if ¬ (a0 < 0 ∨ 8 ≤ (a0).toNatClampNeg) then
            if (I 13 (a0).toNatClampNeg) ≤ a1 then
              some ((0 : Int64))
            else
              if ¬ ((((160 : Int32) * a0) + a1) < 0 ∨ 1280 ≤ ((((160 : Int32) * a0) + a1)).toNatClampNeg) then
                some ((J 15 ((((160 : Int32) * a0) + a1)).toNatClampNeg))
              else none
          else none
    else none
set_option maxHeartbeats 4000000 in
set_option maxRecDepth 100000 in
theorem axX8_element {I : Nat → Nat → Int32} {J : Nat → Nat → Int64} {a0 : Int32} {a1 : Int32} {r : Int64} (h : DX8_element I J a0 a1 = some r) : am_F 1 nX8_element [.ref 0, .int a0, .int a1] (TM, I, J, RM) (some (.long r)) (TM, I, J, RM) := by
  unfold DX8_element at h
  unfold am_F
  refine am_E.go (n := 1) rfl ?_
  refine am_E.callF rfl (by decide) (axX8_isShelf rfl) ?_
  refine am_E.brk rfl (fun hp => ?_) (fun hp => ?_)
  · have h := (if_pos hp).symm.trans h
    refine am_E.go (n := 0) rfl ?_
    cases h
    exact am_E.ret rfl ⟨rfl, rfl⟩
  · have h := (if_neg hp).symm.trans h
    refine am_E.go (n := 2) rfl ?_
    obtain ⟨hg, h⟩ := am_ifI h
    refine am_E.grd rfl hg ?_
    refine am_E.go (n := 0) rfl ?_
    refine am_E.brk rfl (fun hp => ?_) (fun hp => ?_)
    · have h := (if_pos hp).symm.trans h
      refine am_E.go (n := 0) rfl ?_
      cases h
      exact am_E.ret rfl ⟨rfl, rfl⟩
    · have h := (if_neg hp).symm.trans h
      refine am_E.go (n := 0) rfl ?_
      refine am_E.brk rfl (fun hp => ?_) (fun hp => ?_)
      · have h := (if_pos hp).symm.trans h
        refine am_E.go (n := 0) rfl ?_
        cases h
        exact am_E.ret rfl ⟨rfl, rfl⟩
      · have h := (if_neg hp).symm.trans h
        refine am_E.go (n := 3) rfl ?_
        obtain ⟨hg, h⟩ := am_ifI h
        refine am_E.grd rfl hg ?_
        refine am_E.brk rfl (fun hp => ?_) (fun hp => ?_)
        · have h := (if_pos hp).symm.trans h
          refine am_E.go (n := 0) rfl ?_
          cases h
          exact am_E.ret rfl ⟨rfl, rfl⟩
        · have h := (if_neg hp).symm.trans h
          refine am_E.go (n := 6) rfl ?_
          obtain ⟨hg, h⟩ := am_ifI h
          refine am_E.grd rfl hg ?_
          refine am_E.go (n := 0) rfl ?_
          cases h
          exact am_E.ret rfl ⟨rfl, rfl⟩
def DX8_show (I : Nat → Nat → Int32) (J : Nat → Nat → Int64) (a0 : Int32) (a1 : Int32) : Option (Int32 × (Nat → Nat → Int32) × (Nat → Nat → Int64)) :=
  if (DX8_isShelf a0) = 0 then
    (DX8_no I J ((-1 : Int32))).bind fun q1 =>
    some (q1.1, q1.2.1, q1.2.2)
  else
    if a1 = (-1 : Int32) then
      if ¬ a1 = (-1 : Int32) then
        if ¬ (a0 < 0 ∨ 8 ≤ (a0).toNatClampNeg) then
          if ¬ (a0 < 0 ∨ 8 ≤ (a0).toNatClampNeg) then
            if ¬ a1 = (-1 : Int32) then
              some ((1 : Int32), (am_upI ((am_upI I 11 (a0).toNatClampNeg (2 : Int32))) 14 (a0).toNatClampNeg a1), J)
            else
              some ((0 : Int32), (am_upI ((am_upI I 11 (a0).toNatClampNeg (2 : Int32))) 14 (a0).toNatClampNeg a1), J)
          else none
        else none
      else
        if ¬ (a0 < 0 ∨ 8 ≤ (a0).toNatClampNeg) then
          if ¬ (a0 < 0 ∨ 8 ≤ (a0).toNatClampNeg) then
            if ¬ a1 = (-1 : Int32) then
              some ((1 : Int32), (am_upI ((am_upI I 11 (a0).toNatClampNeg (0 : Int32))) 14 (a0).toNatClampNeg a1), J)
            else
              some ((0 : Int32), (am_upI ((am_upI I 11 (a0).toNatClampNeg (0 : Int32))) 14 (a0).toNatClampNeg a1), J)
          else none
        else none
    else
      if ¬ (DX8_isStuff I a1) = 0 then
        if ¬ a1 = (-1 : Int32) then
          if ¬ (a0 < 0 ∨ 8 ≤ (a0).toNatClampNeg) then
            if ¬ (a0 < 0 ∨ 8 ≤ (a0).toNatClampNeg) then
              if ¬ a1 = (-1 : Int32) then
                some ((1 : Int32), (am_upI ((am_upI I 11 (a0).toNatClampNeg (2 : Int32))) 14 (a0).toNatClampNeg a1), J)
              else
                some ((0 : Int32), (am_upI ((am_upI I 11 (a0).toNatClampNeg (2 : Int32))) 14 (a0).toNatClampNeg a1), J)
            else none
          else none
        else
          if ¬ (a0 < 0 ∨ 8 ≤ (a0).toNatClampNeg) then
            if ¬ (a0 < 0 ∨ 8 ≤ (a0).toNatClampNeg) then
              if ¬ a1 = (-1 : Int32) then
                some ((1 : Int32), (am_upI ((am_upI I 11 (a0).toNatClampNeg (0 : Int32))) 14 (a0).toNatClampNeg a1), J)
              else
                some ((0 : Int32), (am_upI ((am_upI I 11 (a0).toNatClampNeg (0 : Int32))) 14 (a0).toNatClampNeg a1), J)
            else none
          else none
      else
        (DX8_no I J ((-1 : Int32))).bind fun q2 =>
        some (q2.1, q2.2.1, q2.2.2)
set_option maxHeartbeats 4000000 in
set_option maxRecDepth 100000 in
theorem axX8_show {I : Nat → Nat → Int32} {J : Nat → Nat → Int64} {a0 : Int32} {a1 : Int32} {r : Int32} {I' : Nat → Nat → Int32} {J' : Nat → Nat → Int64} (h : DX8_show I J a0 a1 = some (r, I', J')) : am_F 1 nX8_show [.ref 0, .int a0, .int a1] (TM, I, J, RM) (some (.int r)) (TM, I', J', RM) := by
  unfold DX8_show at h
  unfold am_F
  refine am_E.go (n := 1) rfl ?_
  refine am_E.callF rfl (by decide) (axX8_isShelf rfl) ?_
  refine am_E.brk rfl (fun hp => ?_) (fun hp => ?_)
  · have h := (if_pos hp).symm.trans h
    refine am_E.go (n := 1) rfl ?_
    obtain ⟨q1, hq, h⟩ := am_bindI h
    obtain ⟨q1_1, q1_2, q1_3⟩ := q1
    refine am_E.callF rfl (by decide) (axX8_no hq) ?_
    cases h
    exact am_E.ret rfl ⟨rfl, rfl⟩
  · have h := (if_neg hp).symm.trans h
    refine am_E.go (n := 1) rfl ?_
    refine am_E.brk rfl (fun hp => ?_) (fun hp => ?_)
    · have h := (if_pos hp).symm.trans h
      refine am_E.go (n := 4) rfl ?_
      refine am_E.brk rfl (fun hp => ?_) (fun hp => ?_)
      · have h := (if_pos hp).symm.trans h
        refine am_E.go (n := 0) rfl ?_
        obtain ⟨hg, h⟩ := am_ifI h
        refine am_E.grd rfl hg ?_
        refine am_E.go (n := 3) rfl ?_
        obtain ⟨hg, h⟩ := am_ifI h
        refine am_E.grd rfl hg ?_
        refine am_E.go (n := 1) rfl ?_
        refine am_E.brk rfl (fun hp => ?_) (fun hp => ?_)
        · have h := (if_pos hp).symm.trans h
          refine am_E.go (n := 0) rfl ?_
          cases h
          exact am_E.ret rfl ⟨rfl, rfl⟩
        · have h := (if_neg hp).symm.trans h
          refine am_E.go (n := 1) rfl ?_
          cases h
          exact am_E.ret rfl ⟨rfl, rfl⟩
      · have h := (if_neg hp).symm.trans h
        refine am_E.go (n := 1) rfl ?_
        obtain ⟨hg, h⟩ := am_ifI h
        refine am_E.grd rfl hg ?_
        refine am_E.go (n := 3) rfl ?_
        obtain ⟨hg, h⟩ := am_ifI h
        refine am_E.grd rfl hg ?_
        refine am_E.go (n := 1) rfl ?_
        refine am_E.brk rfl (fun hp => ?_) (fun hp => ?_)
        · have h := (if_pos hp).symm.trans h
          refine am_E.go (n := 0) rfl ?_
          cases h
          exact am_E.ret rfl ⟨rfl, rfl⟩
        · have h := (if_neg hp).symm.trans h
          refine am_E.go (n := 1) rfl ?_
          cases h
          exact am_E.ret rfl ⟨rfl, rfl⟩
    · have h := (if_neg hp).symm.trans h
      refine am_E.go (n := 1) rfl ?_
      refine am_E.callF rfl (by decide) (axX8_isStuff rfl) ?_
      refine am_E.brk rfl (fun hp => ?_) (fun hp => ?_)
      · have h := (if_pos hp).symm.trans h
        refine am_E.go (n := 4) rfl ?_
        refine am_E.brk rfl (fun hp => ?_) (fun hp => ?_)
        · have h := (if_pos hp).symm.trans h
          refine am_E.go (n := 0) rfl ?_
          obtain ⟨hg, h⟩ := am_ifI h
          refine am_E.grd rfl hg ?_
          refine am_E.go (n := 3) rfl ?_
          obtain ⟨hg, h⟩ := am_ifI h
          refine am_E.grd rfl hg ?_
          refine am_E.go (n := 1) rfl ?_
          refine am_E.brk rfl (fun hp => ?_) (fun hp => ?_)
          · have h := (if_pos hp).symm.trans h
            refine am_E.go (n := 0) rfl ?_
            cases h
            exact am_E.ret rfl ⟨rfl, rfl⟩
          · have h := (if_neg hp).symm.trans h
            refine am_E.go (n := 1) rfl ?_
            cases h
            exact am_E.ret rfl ⟨rfl, rfl⟩
        · have h := (if_neg hp).symm.trans h
          refine am_E.go (n := 1) rfl ?_
          obtain ⟨hg, h⟩ := am_ifI h
          refine am_E.grd rfl hg ?_
          refine am_E.go (n := 3) rfl ?_
          obtain ⟨hg, h⟩ := am_ifI h
          refine am_E.grd rfl hg ?_
          refine am_E.go (n := 1) rfl ?_
          refine am_E.brk rfl (fun hp => ?_) (fun hp => ?_)
          · have h := (if_pos hp).symm.trans h
            refine am_E.go (n := 0) rfl ?_
            cases h
            exact am_E.ret rfl ⟨rfl, rfl⟩
          · have h := (if_neg hp).symm.trans h
            refine am_E.go (n := 1) rfl ?_
            cases h
            exact am_E.ret rfl ⟨rfl, rfl⟩
      · have h := (if_neg hp).symm.trans h
        refine am_E.go (n := 1) rfl ?_
        obtain ⟨q2, hq, h⟩ := am_bindI h
        obtain ⟨q2_1, q2_2, q2_3⟩ := q2
        refine am_E.callF rfl (by decide) (axX8_no hq) ?_
        cases h
        exact am_E.ret rfl ⟨rfl, rfl⟩
def DX8_holds (I : Nat → Nat → Int32) (a0 : Int32) : Option Int32 :=
  if (DX8_isShelf a0) = 0 then
    some ((-1 : Int32))
  else
    if ¬ (a0 < 0 ∨ 8 ≤ (a0).toNatClampNeg) then
      if ¬ (I 11 (a0).toNatClampNeg) = 0 then
        if ¬ (a0 < 0 ∨ 8 ≤ (a0).toNatClampNeg) then
          if ¬ (I 11 (a0).toNatClampNeg) = (1 : Int32) then
            if ¬ (a0 < 0 ∨ 8 ≤ (a0).toNatClampNeg) then
              some ((I 14 (a0).toNatClampNeg))
            else none
          else
            if ¬ (a0 < 0 ∨ 8 ≤ (a0).toNatClampNeg) then
              some (((100 : Int32) + (I 12 (a0).toNatClampNeg)))
            else none
        else none
      else
        some ((-1 : Int32))
    else none
set_option maxHeartbeats 4000000 in
set_option maxRecDepth 100000 in
theorem axX8_holds {I : Nat → Nat → Int32} {J : Nat → Nat → Int64} {a0 : Int32} {r : Int32} (h : DX8_holds I a0 = some r) : am_F 1 nX8_holds [.ref 0, .int a0] (TM, I, J, RM) (some (.int r)) (TM, I, J, RM) := by
  unfold DX8_holds at h
  unfold am_F
  refine am_E.go (n := 1) rfl ?_
  refine am_E.callF rfl (by decide) (axX8_isShelf rfl) ?_
  refine am_E.brk rfl (fun hp => ?_) (fun hp => ?_)
  · have h := (if_pos hp).symm.trans h
    refine am_E.go (n := 0) rfl ?_
    cases h
    exact am_E.ret rfl ⟨rfl, rfl⟩
  · have h := (if_neg hp).symm.trans h
    refine am_E.go (n := 2) rfl ?_
    obtain ⟨hg, h⟩ := am_ifI h
    refine am_E.grd rfl hg ?_
    refine am_E.brk rfl (fun hp => ?_) (fun hp => ?_)
    · have h := (if_pos hp).symm.trans h
      refine am_E.go (n := 2) rfl ?_
      obtain ⟨hg, h⟩ := am_ifI h
      refine am_E.grd rfl hg ?_
      refine am_E.go (n := 0) rfl ?_
      refine am_E.brk rfl (fun hp => ?_) (fun hp => ?_)
      · have h := (if_pos hp).symm.trans h
        refine am_E.go (n := 2) rfl ?_
        obtain ⟨hg, h⟩ := am_ifI h
        refine am_E.grd rfl hg ?_
        cases h
        exact am_E.ret rfl ⟨rfl, rfl⟩
      · have h := (if_neg hp).symm.trans h
        refine am_E.go (n := 3) rfl ?_
        obtain ⟨hg, h⟩ := am_ifI h
        refine am_E.grd rfl hg ?_
        refine am_E.go (n := 1) rfl ?_
        cases h
        exact am_E.ret rfl ⟨rfl, rfl⟩
    · have h := (if_neg hp).symm.trans h
      refine am_E.go (n := 0) rfl ?_
      cases h
      exact am_E.ret rfl ⟨rfl, rfl⟩
def LX8_count : Nat → (Nat → Nat → Int32) → Nat → Int32 → Int32 → Int32 → Option Int32
  | 0, _, _, _, _, _ => none
  | n + 1, I, g0, x2, x3, x4 =>
    if (24 : Int32) ≤ x4 then
      some x3
    else
      if ¬ (x4 < 0 ∨ 24 ≤ (x4).toNatClampNeg) then
        if ¬ (I g0 (x4).toNatClampNeg) = x2 then
          LX8_count n I g0 x2 x3 ((x4 + (1 : Int32)))
        else
          LX8_count n I g0 x2 ((x3 + (1 : Int32))) ((x4 + (1 : Int32)))
      else none
def DX8_count (I : Nat → Nat → Int32) (g0 : Nat) (a1 : Int32) : Option Int32 :=
  LX8_count am_FU I g0 a1 ((0 : Int32)) ((0 : Int32))
set_option maxHeartbeats 4000000 in
set_option maxRecDepth 100000 in
theorem alX8_count : ∀ (n : Nat), ∀ {I : Nat → Nat → Int32} {J : Nat → Nat → Int64} {g0 : Nat} {x2 : Int32} {x3 : Int32} {x4 : Int32} {r : Int32}, dm_mc g0 → LX8_count n I g0 x2 x3 x4 = some r → am_E 0 nX8_count (5, [.retAddr 0, .ref g0, .int x2, .int x3, .int x4], [], (TM, I, J, RM)) (fun v M' => v = some (.int r) ∧ M' = (TM, I, J, RM)) := by
  intro n
  induction n with
  | zero => intros; contradiction
  | succ n ih =>
    intro I J g0 x2 x3 x4 r hg0 h
    simp only [LX8_count] at h
    unfold dm_mc at hg0
    rcases hg0 with rfl | rfl
    all_goals
      refine am_E.go (n := 1) rfl ?_
      refine am_E.brk rfl (fun hp => ?_) (fun hp => ?_)
      · have h := (if_pos hp).symm.trans h
        refine am_E.go (n := 0) rfl ?_
        cases h
        exact am_E.ret rfl ⟨rfl, rfl⟩
      · have h := (if_neg hp).symm.trans h
        refine am_E.go (n := 1) rfl ?_
        obtain ⟨hg, h⟩ := am_ifI h
        refine am_E.grd rfl hg ?_
        refine am_E.go (n := 0) rfl ?_
        refine am_E.brk rfl (fun hp => ?_) (fun hp => ?_)
        · have h := (if_pos hp).symm.trans h
          refine am_E.go (n := 1) rfl ?_
          exact ih (by decide) h
        · have h := (if_neg hp).symm.trans h
          refine am_E.go (n := 2) rfl ?_
          exact ih (by decide) h
set_option maxHeartbeats 4000000 in
set_option maxRecDepth 100000 in
theorem axX8_count {I : Nat → Nat → Int32} {J : Nat → Nat → Int64} {g0 : Nat} {a1 : Int32} {r : Int32} (hg0 : dm_mc g0) (h : DX8_count I g0 a1 = some r) : am_F 0 nX8_count [.ref 0, .ref g0, .int a1, .retAddr 0, .retAddr 0] (TM, I, J, RM) (some (.int r)) (TM, I, J, RM) := by
  unfold DX8_count at h
  unfold am_F
  unfold dm_mc at hg0
  rcases hg0 with rfl | rfl
  all_goals
    refine am_E.go (n := 3) rfl ?_
    refine am_E.less (ls0 := [.retAddr 0, _, _, _, _]) ?_ ⟨Or.inr ⟨rfl, rfl⟩, Or.inl rfl, Or.inl rfl, Or.inl rfl, Or.inl rfl, trivial⟩
    exact (alX8_count am_FU) (by decide) h
def DX8_brownOf (I : Nat → Nat → Int32) (a0 : Int32) (a1 : Int32) (a2 : Int32) (a3 : Int32) : Option Int32 :=
  if ¬ (a0 < 0 ∨ 8 ≤ (a0).toNatClampNeg) then
    if (I 2 (a0).toNatClampNeg) = 1 then
      (if 0 ≤ ((a1 + a2) - (12 : Int32)) then
        some (((a1 + a2) - (12 : Int32)))
      else
        some ((0 : Int32)))
    else if (I 2 (a0).toNatClampNeg) = 2 then
      (if 0 ≤ ((a1 + a2) - ((6 : Int32) * a3)) then
        some (((a1 + a2) - ((6 : Int32) * a3)))
      else
        some ((0 : Int32)))
    else if (I 2 (a0).toNatClampNeg) = 3 then
      (some ((0 : Int32)))
    else if (I 2 (a0).toNatClampNeg) = 4 then
      (if 0 ≤ ((a1 + a2) + a1) then
        some (((a1 + a2) + a1))
      else
        some ((0 : Int32)))
    else if (I 2 (a0).toNatClampNeg) = 5 then
      (if 0 ≤ ((a1 + a2) + a1) then
        some (((a1 + a2) + a1))
      else
        some ((0 : Int32)))
    else if (I 2 (a0).toNatClampNeg) = 6 then
      (if 0 ≤ ((a1 + a2) - ((6 : Int32) * a3)) then
        some (((a1 + a2) - ((6 : Int32) * a3)))
      else
        some ((0 : Int32)))
    else if 0 ≤ (a1 + a2) then
      some ((a1 + a2))
    else
      some ((0 : Int32))
  else none
set_option maxHeartbeats 4000000 in
set_option maxRecDepth 100000 in
theorem axX8_brownOf {I : Nat → Nat → Int32} {J : Nat → Nat → Int64} {a0 : Int32} {a1 : Int32} {a2 : Int32} {a3 : Int32} {r : Int32} (h : DX8_brownOf I a0 a1 a2 a3 = some r) : am_F 0 nX8_brownOf [.ref 0, .int a0, .int a1, .int a2, .int a3, .retAddr 0, .retAddr 0] (TM, I, J, RM) (some (.int r)) (TM, I, J, RM) := by
  unfold DX8_brownOf at h
  unfold am_F
  refine am_E.go (n := 6) rfl ?_
  obtain ⟨hg, h⟩ := am_ifI h
  refine am_E.grd rfl hg ?_
  refine am_E.sw rfl ?_
  refine ⟨fun hp => ?_, fun hp => ?_⟩
  · have h := (if_pos hp).symm.trans h
    refine am_E.go (n := 5) rfl ?_
    refine am_E.brk rfl (fun hp => ?_) (fun hp => ?_)
    · have h := (if_pos hp).symm.trans h
      refine am_E.go (n := 0) rfl ?_
      cases h
      exact am_E.ret rfl ⟨rfl, rfl⟩
    · have h := (if_neg hp).symm.trans h
      refine am_E.go (n := 1) rfl ?_
      cases h
      exact am_E.ret rfl ⟨rfl, rfl⟩
  have h := (if_neg hp).symm.trans h
  refine ⟨fun hp => ?_, fun hp => ?_⟩
  · have h := (if_pos hp).symm.trans h
    refine am_E.go (n := 7) rfl ?_
    refine am_E.brk rfl (fun hp => ?_) (fun hp => ?_)
    · have h := (if_pos hp).symm.trans h
      refine am_E.go (n := 0) rfl ?_
      cases h
      exact am_E.ret rfl ⟨rfl, rfl⟩
    · have h := (if_neg hp).symm.trans h
      refine am_E.go (n := 1) rfl ?_
      cases h
      exact am_E.ret rfl ⟨rfl, rfl⟩
  have h := (if_neg hp).symm.trans h
  refine ⟨fun hp => ?_, fun hp => ?_⟩
  · have h := (if_pos hp).symm.trans h
    refine am_E.go (n := 3) rfl ?_
    refine am_E.step rfl ?_
    refine am_E.go (n := 0) rfl ?_
    cases h
    exact am_E.ret rfl ⟨rfl, rfl⟩
  have h := (if_neg hp).symm.trans h
  refine ⟨fun hp => ?_, fun hp => ?_⟩
  · have h := (if_pos hp).symm.trans h
    refine am_E.go (n := 5) rfl ?_
    refine am_E.brk rfl (fun hp => ?_) (fun hp => ?_)
    · have h := (if_pos hp).symm.trans h
      refine am_E.go (n := 0) rfl ?_
      cases h
      exact am_E.ret rfl ⟨rfl, rfl⟩
    · have h := (if_neg hp).symm.trans h
      refine am_E.go (n := 1) rfl ?_
      cases h
      exact am_E.ret rfl ⟨rfl, rfl⟩
  have h := (if_neg hp).symm.trans h
  refine ⟨fun hp => ?_, fun hp => ?_⟩
  · have h := (if_pos hp).symm.trans h
    refine am_E.go (n := 5) rfl ?_
    refine am_E.brk rfl (fun hp => ?_) (fun hp => ?_)
    · have h := (if_pos hp).symm.trans h
      refine am_E.go (n := 0) rfl ?_
      cases h
      exact am_E.ret rfl ⟨rfl, rfl⟩
    · have h := (if_neg hp).symm.trans h
      refine am_E.go (n := 1) rfl ?_
      cases h
      exact am_E.ret rfl ⟨rfl, rfl⟩
  have h := (if_neg hp).symm.trans h
  refine ⟨fun hp => ?_, fun hp => ?_⟩
  · have h := (if_pos hp).symm.trans h
    refine am_E.go (n := 7) rfl ?_
    refine am_E.brk rfl (fun hp => ?_) (fun hp => ?_)
    · have h := (if_pos hp).symm.trans h
      refine am_E.go (n := 0) rfl ?_
      cases h
      exact am_E.ret rfl ⟨rfl, rfl⟩
    · have h := (if_neg hp).symm.trans h
      refine am_E.go (n := 1) rfl ?_
      cases h
      exact am_E.ret rfl ⟨rfl, rfl⟩
  have h := (if_neg hp).symm.trans h
  refine am_E.go (n := 2) rfl ?_
  refine am_E.brk rfl (fun hp => ?_) (fun hp => ?_)
  · have h := (if_pos hp).symm.trans h
    refine am_E.go (n := 0) rfl ?_
    cases h
    exact am_E.ret rfl ⟨rfl, rfl⟩
  · have h := (if_neg hp).symm.trans h
    refine am_E.go (n := 1) rfl ?_
    cases h
    exact am_E.ret rfl ⟨rfl, rfl⟩
def DX8_freshOf (I : Nat → Nat → Int32) (a0 : Int32) (a1 : Int32) (a2 : Int32) (a3 : Int32) : Option Int32 :=
  if ¬ (a0 < 0 ∨ 8 ≤ (a0).toNatClampNeg) then
    if ¬ (I 2 (a0).toNatClampNeg) = (6 : Int32) then
      (DX8_brownOf I a0 a1 a2 a3).bind fun q1 =>
      if ¬ (a0 < 0 ∨ 8 ≤ (a0).toNatClampNeg) then
        if ¬ ((I 4 (a0).toNatClampNeg) + (1 : Int32)) = 0 then
          if 0 ≤ ((9 : Int32) - (q1 / ((I 4 (a0).toNatClampNeg) + (1 : Int32)))) then
            if ¬ (a0 < 0 ∨ 8 ≤ (a0).toNatClampNeg) then
              if ¬ (I 2 (a0).toNatClampNeg) = (5 : Int32) then
                if 0 ≤ ((9 : Int32) - (q1 / ((I 4 (a0).toNatClampNeg) + (1 : Int32)))) then
                  some (((9 : Int32) - (q1 / ((I 4 (a0).toNatClampNeg) + (1 : Int32)))))
                else
                  some ((0 : Int32))
              else
                if 0 ≤ (((9 : Int32) - (q1 / ((I 4 (a0).toNatClampNeg) + (1 : Int32)))) - a3) then
                  some ((((9 : Int32) - (q1 / ((I 4 (a0).toNatClampNeg) + (1 : Int32)))) - a3))
                else
                  some ((0 : Int32))
            else none
          else
            if ¬ (a0 < 0 ∨ 8 ≤ (a0).toNatClampNeg) then
              if ¬ (I 2 (a0).toNatClampNeg) = (5 : Int32) then
                some ((0 : Int32))
              else
                if 0 ≤ ((0 : Int32) - a3) then
                  some (((0 : Int32) - a3))
                else
                  some ((0 : Int32))
            else none
        else none
      else none
    else
      if (a1 + a2) ≤ (48 : Int32) then
        (DX8_brownOf I a0 a1 a2 a3).bind fun q2 =>
        if ¬ (a0 < 0 ∨ 8 ≤ (a0).toNatClampNeg) then
          if ¬ ((I 4 (a0).toNatClampNeg) + (1 : Int32)) = 0 then
            if 0 ≤ ((9 : Int32) - (q2 / ((I 4 (a0).toNatClampNeg) + (1 : Int32)))) then
              if ¬ (a0 < 0 ∨ 8 ≤ (a0).toNatClampNeg) then
                if ¬ (I 2 (a0).toNatClampNeg) = (5 : Int32) then
                  if 0 ≤ ((9 : Int32) - (q2 / ((I 4 (a0).toNatClampNeg) + (1 : Int32)))) then
                    some (((9 : Int32) - (q2 / ((I 4 (a0).toNatClampNeg) + (1 : Int32)))))
                  else
                    some ((0 : Int32))
                else
                  if 0 ≤ (((9 : Int32) - (q2 / ((I 4 (a0).toNatClampNeg) + (1 : Int32)))) - a3) then
                    some ((((9 : Int32) - (q2 / ((I 4 (a0).toNatClampNeg) + (1 : Int32)))) - a3))
                  else
                    some ((0 : Int32))
              else none
            else
              if ¬ (a0 < 0 ∨ 8 ≤ (a0).toNatClampNeg) then
                if ¬ (I 2 (a0).toNatClampNeg) = (5 : Int32) then
                  some ((0 : Int32))
                else
                  if 0 ≤ ((0 : Int32) - a3) then
                    some (((0 : Int32) - a3))
                  else
                    some ((0 : Int32))
              else none
          else none
        else none
      else
        some ((0 : Int32))
  else none
set_option maxHeartbeats 4000000 in
set_option maxRecDepth 100000 in
theorem axX8_freshOf {I : Nat → Nat → Int32} {J : Nat → Nat → Int64} {a0 : Int32} {a1 : Int32} {a2 : Int32} {a3 : Int32} {r : Int32} (h : DX8_freshOf I a0 a1 a2 a3 = some r) : am_F 1 nX8_freshOf [.ref 0, .int a0, .int a1, .int a2, .int a3, .retAddr 0] (TM, I, J, RM) (some (.int r)) (TM, I, J, RM) := by
  unfold DX8_freshOf at h
  unfold am_F
  refine am_E.go (n := 2) rfl ?_
  obtain ⟨hg, h⟩ := am_ifI h
  refine am_E.grd rfl hg ?_
  refine am_E.go (n := 0) rfl ?_
  refine am_E.brk rfl (fun hp => ?_) (fun hp => ?_)
  · have h := (if_pos hp).symm.trans h
    refine am_E.go (n := 5) rfl ?_
    obtain ⟨q1, hq, h⟩ := am_bindI h
    refine am_E.callF rfl (by decide) (axX8_brownOf hq) ?_
    refine am_E.go (n := 2) rfl ?_
    obtain ⟨hg, h⟩ := am_ifI h
    refine am_E.grd rfl hg ?_
    refine am_E.go (n := 1) rfl ?_
    obtain ⟨hg, h⟩ := am_ifI h
    refine am_E.grd rfl hg ?_
    refine am_E.go (n := 2) rfl ?_
    obtain ⟨w, hw⟩ : ∃ w, w = ((9 : Int32) - (q1 / ((I 4 (a0).toNatClampNeg) + (1 : Int32)))) := ⟨_, rfl⟩
    try with_reducible rw [← hw] at h
    try with_reducible rw [← hw]
    clear hw
    refine am_E.brk rfl (fun hp => ?_) (fun hp => ?_)
    · have h := (if_pos hp).symm.trans h
      refine am_E.go (n := 4) rfl ?_
      obtain ⟨hg, h⟩ := am_ifI h
      refine am_E.grd rfl hg ?_
      refine am_E.go (n := 0) rfl ?_
      refine am_E.brk rfl (fun hp => ?_) (fun hp => ?_)
      · have h := (if_pos hp).symm.trans h
        refine am_E.go (n := 0) rfl ?_
        obtain ⟨w, hw⟩ : ∃ w, w = ((9 : Int32) - (q1 / ((I 4 (a0).toNatClampNeg) + (1 : Int32)))) := ⟨_, rfl⟩
        try with_reducible rw [← hw] at h
        try with_reducible rw [← hw]
        clear hw
        refine am_E.brk rfl (fun hp => ?_) (fun hp => ?_)
        · have h := (if_pos hp).symm.trans h
          refine am_E.go (n := 0) rfl ?_
          cases h
          exact am_E.ret rfl ⟨rfl, rfl⟩
        · have h := (if_neg hp).symm.trans h
          refine am_E.go (n := 1) rfl ?_
          cases h
          exact am_E.ret rfl ⟨rfl, rfl⟩
      · have h := (if_neg hp).symm.trans h
        refine am_E.go (n := 4) rfl ?_
        obtain ⟨w, hw⟩ : ∃ w, w = ((9 : Int32) - (q1 / ((I 4 (a0).toNatClampNeg) + (1 : Int32)))) := ⟨_, rfl⟩
        try with_reducible rw [← hw] at h
        try with_reducible rw [← hw]
        clear hw
        refine am_E.brk rfl (fun hp => ?_) (fun hp => ?_)
        · have h := (if_pos hp).symm.trans h
          refine am_E.go (n := 0) rfl ?_
          cases h
          exact am_E.ret rfl ⟨rfl, rfl⟩
        · have h := (if_neg hp).symm.trans h
          refine am_E.go (n := 1) rfl ?_
          cases h
          exact am_E.ret rfl ⟨rfl, rfl⟩
    · have h := (if_neg hp).symm.trans h
      refine am_E.go (n := 5) rfl ?_
      obtain ⟨hg, h⟩ := am_ifI h
      refine am_E.grd rfl hg ?_
      refine am_E.go (n := 0) rfl ?_
      refine am_E.brk rfl (fun hp => ?_) (fun hp => ?_)
      · have h := (if_pos hp).symm.trans h
        refine am_E.go (n := 0) rfl ?_
        refine am_E.step rfl ?_
        refine am_E.go (n := 0) rfl ?_
        cases h
        exact am_E.ret rfl ⟨rfl, rfl⟩
      · have h := (if_neg hp).symm.trans h
        refine am_E.go (n := 4) rfl ?_
        obtain ⟨w, hw⟩ : ∃ w, w = ((0 : Int32) - a3) := ⟨_, rfl⟩
        try with_reducible rw [← hw] at h
        try with_reducible rw [← hw]
        clear hw
        refine am_E.brk rfl (fun hp => ?_) (fun hp => ?_)
        · have h := (if_pos hp).symm.trans h
          refine am_E.go (n := 0) rfl ?_
          cases h
          exact am_E.ret rfl ⟨rfl, rfl⟩
        · have h := (if_neg hp).symm.trans h
          refine am_E.go (n := 1) rfl ?_
          cases h
          exact am_E.ret rfl ⟨rfl, rfl⟩
  · have h := (if_neg hp).symm.trans h
    refine am_E.go (n := 3) rfl ?_
    refine am_E.brk rfl (fun hp => ?_) (fun hp => ?_)
    · have h := (if_pos hp).symm.trans h
      refine am_E.go (n := 5) rfl ?_
      obtain ⟨q2, hq, h⟩ := am_bindI h
      refine am_E.callF rfl (by decide) (axX8_brownOf hq) ?_
      refine am_E.go (n := 2) rfl ?_
      obtain ⟨hg, h⟩ := am_ifI h
      refine am_E.grd rfl hg ?_
      refine am_E.go (n := 1) rfl ?_
      obtain ⟨hg, h⟩ := am_ifI h
      refine am_E.grd rfl hg ?_
      refine am_E.go (n := 2) rfl ?_
      obtain ⟨w, hw⟩ : ∃ w, w = ((9 : Int32) - (q2 / ((I 4 (a0).toNatClampNeg) + (1 : Int32)))) := ⟨_, rfl⟩
      try with_reducible rw [← hw] at h
      try with_reducible rw [← hw]
      clear hw
      refine am_E.brk rfl (fun hp => ?_) (fun hp => ?_)
      · have h := (if_pos hp).symm.trans h
        refine am_E.go (n := 4) rfl ?_
        obtain ⟨hg, h⟩ := am_ifI h
        refine am_E.grd rfl hg ?_
        refine am_E.go (n := 0) rfl ?_
        refine am_E.brk rfl (fun hp => ?_) (fun hp => ?_)
        · have h := (if_pos hp).symm.trans h
          refine am_E.go (n := 0) rfl ?_
          obtain ⟨w, hw⟩ : ∃ w, w = ((9 : Int32) - (q2 / ((I 4 (a0).toNatClampNeg) + (1 : Int32)))) := ⟨_, rfl⟩
          try with_reducible rw [← hw] at h
          try with_reducible rw [← hw]
          clear hw
          refine am_E.brk rfl (fun hp => ?_) (fun hp => ?_)
          · have h := (if_pos hp).symm.trans h
            refine am_E.go (n := 0) rfl ?_
            cases h
            exact am_E.ret rfl ⟨rfl, rfl⟩
          · have h := (if_neg hp).symm.trans h
            refine am_E.go (n := 1) rfl ?_
            cases h
            exact am_E.ret rfl ⟨rfl, rfl⟩
        · have h := (if_neg hp).symm.trans h
          refine am_E.go (n := 4) rfl ?_
          obtain ⟨w, hw⟩ : ∃ w, w = ((9 : Int32) - (q2 / ((I 4 (a0).toNatClampNeg) + (1 : Int32)))) := ⟨_, rfl⟩
          try with_reducible rw [← hw] at h
          try with_reducible rw [← hw]
          clear hw
          refine am_E.brk rfl (fun hp => ?_) (fun hp => ?_)
          · have h := (if_pos hp).symm.trans h
            refine am_E.go (n := 0) rfl ?_
            cases h
            exact am_E.ret rfl ⟨rfl, rfl⟩
          · have h := (if_neg hp).symm.trans h
            refine am_E.go (n := 1) rfl ?_
            cases h
            exact am_E.ret rfl ⟨rfl, rfl⟩
      · have h := (if_neg hp).symm.trans h
        refine am_E.go (n := 5) rfl ?_
        obtain ⟨hg, h⟩ := am_ifI h
        refine am_E.grd rfl hg ?_
        refine am_E.go (n := 0) rfl ?_
        refine am_E.brk rfl (fun hp => ?_) (fun hp => ?_)
        · have h := (if_pos hp).symm.trans h
          refine am_E.go (n := 0) rfl ?_
          refine am_E.step rfl ?_
          refine am_E.go (n := 0) rfl ?_
          cases h
          exact am_E.ret rfl ⟨rfl, rfl⟩
        · have h := (if_neg hp).symm.trans h
          refine am_E.go (n := 4) rfl ?_
          obtain ⟨w, hw⟩ : ∃ w, w = ((0 : Int32) - a3) := ⟨_, rfl⟩
          try with_reducible rw [← hw] at h
          try with_reducible rw [← hw]
          clear hw
          refine am_E.brk rfl (fun hp => ?_) (fun hp => ?_)
          · have h := (if_pos hp).symm.trans h
            refine am_E.go (n := 0) rfl ?_
            cases h
            exact am_E.ret rfl ⟨rfl, rfl⟩
          · have h := (if_neg hp).symm.trans h
            refine am_E.go (n := 1) rfl ?_
            cases h
            exact am_E.ret rfl ⟨rfl, rfl⟩
    · have h := (if_neg hp).symm.trans h
      refine am_E.go (n := 0) rfl ?_
      cases h
      exact am_E.ret rfl ⟨rfl, rfl⟩
def LX8_says : Nat → (Nat → Nat → Int32) → (Nat → Nat → Int64) → Int32 → Int32 → Int32 → Int32 → Option (Int32 × (Nat → Nat → Int32) × (Nat → Nat → Int64))
  | 0, _, _, _, _, _, _ => none
  | n + 1, I, J, x2, x3, x4, x5 =>
    if x2 = 0 then
      if x2 = 0 then
        (if ¬ (x3 < 0 ∨ 8 ≤ (x3).toNatClampNeg) then
          some ((I 3 (x3).toNatClampNeg), I, J)
        else none)
      else if x2 = 1 then
        ((DX8_count I 6 x3).bind fun q25 =>
        some (q25, I, J))
      else if x2 = 2 then
        ((DX8_count I 7 x3).bind fun q26 =>
        some (q26, I, J))
      else if x2 = 3 then
        ((DX8_freshOf I x3 ((24 : Int32)) ((0 : Int32)) ((2 : Int32))).bind fun q27 =>
        some (q27, I, J))
      else if x2 = 4 then
        ((DX8_freshOf I x3 ((24 : Int32)) ((0 : Int32)) ((2 : Int32))).bind fun q28 =>
        some (q28, I, J))
      else if x2 = 5 then
        ((DX8_freshOf I x3 ((24 : Int32)) ((0 : Int32)) ((2 : Int32))).bind fun q29 =>
        some (q29, I, J))
      else if x2 = 6 then
        (if ¬ (x3 < 0 ∨ 8 ≤ (x3).toNatClampNeg) then
          some ((I 4 (x3).toNatClampNeg), I, J)
        else none)
      else (DX8_freshOf I x3 ((24 : Int32)) ((0 : Int32)) ((2 : Int32))).bind fun q30 =>
      some (q30, I, J)
    else
      if x2 = x4 then
        if x2 = 0 then
          (if ¬ (x3 < 0 ∨ 8 ≤ (x3).toNatClampNeg) then
            some ((I 3 (x3).toNatClampNeg), I, J)
          else none)
        else if x2 = 1 then
          ((DX8_count I 6 x3).bind fun q31 =>
          some (q31, I, J))
        else if x2 = 2 then
          ((DX8_count I 7 x3).bind fun q32 =>
          some (q32, I, J))
        else if x2 = 3 then
          ((DX8_freshOf I x3 ((24 : Int32)) ((0 : Int32)) ((2 : Int32))).bind fun q33 =>
          some (q33, I, J))
        else if x2 = 4 then
          ((DX8_freshOf I x3 ((24 : Int32)) ((0 : Int32)) ((2 : Int32))).bind fun q34 =>
          some (q34, I, J))
        else if x2 = 5 then
          ((DX8_freshOf I x3 ((24 : Int32)) ((0 : Int32)) ((2 : Int32))).bind fun q35 =>
          some (q35, I, J))
        else if x2 = 6 then
          (if ¬ (x3 < 0 ∨ 8 ≤ (x3).toNatClampNeg) then
            some ((I 4 (x3).toNatClampNeg), I, J)
          else none)
        else (DX8_freshOf I x3 ((24 : Int32)) ((0 : Int32)) ((2 : Int32))).bind fun q36 =>
        some (q36, I, J)
      else
        if ¬ x5 = 0 then
          if x2 = 0 then
            (if ¬ (x3 < 0 ∨ 8 ≤ (x3).toNatClampNeg) then
              some ((I 3 (x3).toNatClampNeg), I, J)
            else none)
          else if x2 = 1 then
            ((DX8_count I 6 x3).bind fun q37 =>
            some (q37, I, J))
          else if x2 = 2 then
            ((DX8_count I 7 x3).bind fun q38 =>
            some (q38, I, J))
          else if x2 = 3 then
            ((DX8_freshOf I x3 ((24 : Int32)) ((0 : Int32)) ((2 : Int32))).bind fun q39 =>
            some (q39, I, J))
          else if x2 = 4 then
            ((DX8_freshOf I x3 ((24 : Int32)) ((0 : Int32)) ((2 : Int32))).bind fun q40 =>
            some (q40, I, J))
          else if x2 = 5 then
            ((DX8_freshOf I x3 ((24 : Int32)) ((0 : Int32)) ((2 : Int32))).bind fun q41 =>
            some (q41, I, J))
          else if x2 = 6 then
            (if ¬ (x3 < 0 ∨ 8 ≤ (x3).toNatClampNeg) then
              some ((I 4 (x3).toNatClampNeg), I, J)
            else none)
          else (DX8_freshOf I x3 ((24 : Int32)) ((0 : Int32)) ((2 : Int32))).bind fun q42 =>
          some (q42, I, J)
        else
          (DX8_no I J ((-2 : Int32))).bind fun q43 =>
          some (q43.1, q43.2.1, q43.2.2)
def DX8_says (I : Nat → Nat → Int32) (J : Nat → Nat → Int64) (a0 : Int32) (a1 : Int32) : Option (Int32 × (Nat → Nat → Int32) × (Nat → Nat → Int64)) :=
  if (DX8_isShelf a0) = 0 then
    (DX8_no I J ((-1 : Int32))).bind fun q1 =>
    some (q1.1, q1.2.1, q1.2.2)
  else
    if a1 < 0 then
      (DX8_no I J ((-1 : Int32))).bind fun q2 =>
      some (q2.1, q2.2.1, q2.2.2)
    else
      if a1 ≤ (6 : Int32) then
        if ¬ (a0 < 0 ∨ 8 ≤ (a0).toNatClampNeg) then
          if ¬ (I 11 (a0).toNatClampNeg) = (1 : Int32) then
            if ¬ (a0 < 0 ∨ 8 ≤ (a0).toNatClampNeg) then
              if ¬ (I 11 (a0).toNatClampNeg) = 0 then
                if ¬ (a0 < 0 ∨ 8 ≤ (a0).toNatClampNeg) then
                  if ¬ ((I 14 (a0).toNatClampNeg) < 0 ∨ 8 ≤ ((I 14 (a0).toNatClampNeg)).toNatClampNeg) then
                    if ¬ a1 = (1 : Int32) then
                      if ¬ a1 = (2 : Int32) then
                        if ¬ a1 = (4 : Int32) then
                          LX8_says am_FU I J a1 ((I 14 (a0).toNatClampNeg)) ((I 2 ((I 14 (a0).toNatClampNeg)).toNatClampNeg)) ((0 : Int32))
                        else
                          if ¬ (I 2 ((I 14 (a0).toNatClampNeg)).toNatClampNeg) = (5 : Int32) then
                            LX8_says am_FU I J a1 ((I 14 (a0).toNatClampNeg)) ((I 2 ((I 14 (a0).toNatClampNeg)).toNatClampNeg)) ((0 : Int32))
                          else
                            LX8_says am_FU I J a1 ((I 14 (a0).toNatClampNeg)) ((I 2 ((I 14 (a0).toNatClampNeg)).toNatClampNeg)) ((1 : Int32))
                      else
                        if (I 2 ((I 14 (a0).toNatClampNeg)).toNatClampNeg) = (6 : Int32) then
                          LX8_says am_FU I J a1 ((I 14 (a0).toNatClampNeg)) ((I 2 ((I 14 (a0).toNatClampNeg)).toNatClampNeg)) ((1 : Int32))
                        else
                          if ¬ a1 = (4 : Int32) then
                            LX8_says am_FU I J a1 ((I 14 (a0).toNatClampNeg)) ((I 2 ((I 14 (a0).toNatClampNeg)).toNatClampNeg)) ((0 : Int32))
                          else
                            if ¬ (I 2 ((I 14 (a0).toNatClampNeg)).toNatClampNeg) = (5 : Int32) then
                              LX8_says am_FU I J a1 ((I 14 (a0).toNatClampNeg)) ((I 2 ((I 14 (a0).toNatClampNeg)).toNatClampNeg)) ((0 : Int32))
                            else
                              LX8_says am_FU I J a1 ((I 14 (a0).toNatClampNeg)) ((I 2 ((I 14 (a0).toNatClampNeg)).toNatClampNeg)) ((1 : Int32))
                    else
                      if (I 2 ((I 14 (a0).toNatClampNeg)).toNatClampNeg) = (3 : Int32) then
                        LX8_says am_FU I J a1 ((I 14 (a0).toNatClampNeg)) ((I 2 ((I 14 (a0).toNatClampNeg)).toNatClampNeg)) ((1 : Int32))
                      else
                        if ¬ a1 = (2 : Int32) then
                          if ¬ a1 = (4 : Int32) then
                            LX8_says am_FU I J a1 ((I 14 (a0).toNatClampNeg)) ((I 2 ((I 14 (a0).toNatClampNeg)).toNatClampNeg)) ((0 : Int32))
                          else
                            if ¬ (I 2 ((I 14 (a0).toNatClampNeg)).toNatClampNeg) = (5 : Int32) then
                              LX8_says am_FU I J a1 ((I 14 (a0).toNatClampNeg)) ((I 2 ((I 14 (a0).toNatClampNeg)).toNatClampNeg)) ((0 : Int32))
                            else
                              LX8_says am_FU I J a1 ((I 14 (a0).toNatClampNeg)) ((I 2 ((I 14 (a0).toNatClampNeg)).toNatClampNeg)) ((1 : Int32))
                        else
                          if (I 2 ((I 14 (a0).toNatClampNeg)).toNatClampNeg) = (6 : Int32) then
                            LX8_says am_FU I J a1 ((I 14 (a0).toNatClampNeg)) ((I 2 ((I 14 (a0).toNatClampNeg)).toNatClampNeg)) ((1 : Int32))
                          else
                            if ¬ a1 = (4 : Int32) then
                              LX8_says am_FU I J a1 ((I 14 (a0).toNatClampNeg)) ((I 2 ((I 14 (a0).toNatClampNeg)).toNatClampNeg)) ((0 : Int32))
                            else
                              if ¬ (I 2 ((I 14 (a0).toNatClampNeg)).toNatClampNeg) = (5 : Int32) then
                                LX8_says am_FU I J a1 ((I 14 (a0).toNatClampNeg)) ((I 2 ((I 14 (a0).toNatClampNeg)).toNatClampNeg)) ((0 : Int32))
                              else
                                LX8_says am_FU I J a1 ((I 14 (a0).toNatClampNeg)) ((I 2 ((I 14 (a0).toNatClampNeg)).toNatClampNeg)) ((1 : Int32))
                  else none
                else none
              else
                (DX8_no I J ((-3 : Int32))).bind fun q3 =>
                some (q3.1, q3.2.1, q3.2.2)
            else none
          else
            (DX8_no I J ((-2 : Int32))).bind fun q4 =>
            some (q4.1, q4.2.1, q4.2.2)
        else none
      else
        (DX8_no I J ((-1 : Int32))).bind fun q5 =>
        some (q5.1, q5.2.1, q5.2.2)
set_option maxHeartbeats 4000000 in
set_option maxRecDepth 100000 in
theorem alX8_says : ∀ (n : Nat), ∀ {I : Nat → Nat → Int32} {J : Nat → Nat → Int64} {x2 : Int32} {x3 : Int32} {x4 : Int32} {x5 : Int32} {I' : Nat → Nat → Int32} {J' : Nat → Nat → Int64} {r : Int32}, LX8_says n I J x2 x3 x4 x5 = some (r, I', J') → am_E 2 nX8_says (113, [.ref 0, .retAddr 0, .int x2, .int x3, .int x4, .int x5], [], (TM, I, J, RM)) (fun v M' => v = some (.int r) ∧ M' = (TM, I', J', RM)) := by
  intro n
  induction n with
  | zero => intros; contradiction
  | succ n ih =>
    intro I J x2 x3 x4 x5 I' J' r h
    simp only [LX8_says] at h
    refine am_E.go (n := 0) rfl ?_
    refine am_E.brk rfl (fun hp => ?_) (fun hp => ?_)
    · have h := (if_pos hp).symm.trans h
      refine am_E.go (n := 0) rfl ?_
      refine am_E.sw rfl ?_
      refine ⟨fun hp => ?_, fun hp => ?_⟩
      · have h := (if_pos hp).symm.trans h
        refine am_E.go (n := 2) rfl ?_
        obtain ⟨hg, h⟩ := am_ifI h
        refine am_E.grd rfl hg ?_
        cases h
        exact am_E.ret rfl ⟨rfl, rfl⟩
      have h := (if_neg hp).symm.trans h
      refine ⟨fun hp => ?_, fun hp => ?_⟩
      · have h := (if_pos hp).symm.trans h
        refine am_E.go (n := 3) rfl ?_
        obtain ⟨q25, hq, h⟩ := am_bindI h
        refine am_E.callF rfl (by decide) (axX8_count (by decide) hq) ?_
        cases h
        exact am_E.ret rfl ⟨rfl, rfl⟩
      have h := (if_neg hp).symm.trans h
      refine ⟨fun hp => ?_, fun hp => ?_⟩
      · have h := (if_pos hp).symm.trans h
        refine am_E.go (n := 3) rfl ?_
        obtain ⟨q26, hq, h⟩ := am_bindI h
        refine am_E.callF rfl (by decide) (axX8_count (by decide) hq) ?_
        cases h
        exact am_E.ret rfl ⟨rfl, rfl⟩
      have h := (if_neg hp).symm.trans h
      refine ⟨fun hp => ?_, fun hp => ?_⟩
      · have h := (if_pos hp).symm.trans h
        refine am_E.go (n := 4) rfl ?_
        obtain ⟨q27, hq, h⟩ := am_bindI h
        refine am_E.callF rfl (by decide) (axX8_freshOf hq) ?_
        cases h
        exact am_E.ret rfl ⟨rfl, rfl⟩
      have h := (if_neg hp).symm.trans h
      refine ⟨fun hp => ?_, fun hp => ?_⟩
      · have h := (if_pos hp).symm.trans h
        refine am_E.go (n := 4) rfl ?_
        obtain ⟨q28, hq, h⟩ := am_bindI h
        refine am_E.callF rfl (by decide) (axX8_freshOf hq) ?_
        cases h
        exact am_E.ret rfl ⟨rfl, rfl⟩
      have h := (if_neg hp).symm.trans h
      refine ⟨fun hp => ?_, fun hp => ?_⟩
      · have h := (if_pos hp).symm.trans h
        refine am_E.go (n := 4) rfl ?_
        obtain ⟨q29, hq, h⟩ := am_bindI h
        refine am_E.callF rfl (by decide) (axX8_freshOf hq) ?_
        cases h
        exact am_E.ret rfl ⟨rfl, rfl⟩
      have h := (if_neg hp).symm.trans h
      refine ⟨fun hp => ?_, fun hp => ?_⟩
      · have h := (if_pos hp).symm.trans h
        refine am_E.go (n := 2) rfl ?_
        obtain ⟨hg, h⟩ := am_ifI h
        refine am_E.grd rfl hg ?_
        cases h
        exact am_E.ret rfl ⟨rfl, rfl⟩
      have h := (if_neg hp).symm.trans h
      refine am_E.go (n := 4) rfl ?_
      obtain ⟨q30, hq, h⟩ := am_bindI h
      refine am_E.callF rfl (by decide) (axX8_freshOf hq) ?_
      cases h
      exact am_E.ret rfl ⟨rfl, rfl⟩
    · have h := (if_neg hp).symm.trans h
      refine am_E.go (n := 1) rfl ?_
      refine am_E.brk rfl (fun hp => ?_) (fun hp => ?_)
      · have h := (if_pos hp).symm.trans h
        refine am_E.go (n := 0) rfl ?_
        refine am_E.sw rfl ?_
        refine ⟨fun hp => ?_, fun hp => ?_⟩
        · have h := (if_pos hp).symm.trans h
          refine am_E.go (n := 2) rfl ?_
          obtain ⟨hg, h⟩ := am_ifI h
          refine am_E.grd rfl hg ?_
          cases h
          exact am_E.ret rfl ⟨rfl, rfl⟩
        have h := (if_neg hp).symm.trans h
        refine ⟨fun hp => ?_, fun hp => ?_⟩
        · have h := (if_pos hp).symm.trans h
          refine am_E.go (n := 3) rfl ?_
          obtain ⟨q31, hq, h⟩ := am_bindI h
          refine am_E.callF rfl (by decide) (axX8_count (by decide) hq) ?_
          cases h
          exact am_E.ret rfl ⟨rfl, rfl⟩
        have h := (if_neg hp).symm.trans h
        refine ⟨fun hp => ?_, fun hp => ?_⟩
        · have h := (if_pos hp).symm.trans h
          refine am_E.go (n := 3) rfl ?_
          obtain ⟨q32, hq, h⟩ := am_bindI h
          refine am_E.callF rfl (by decide) (axX8_count (by decide) hq) ?_
          cases h
          exact am_E.ret rfl ⟨rfl, rfl⟩
        have h := (if_neg hp).symm.trans h
        refine ⟨fun hp => ?_, fun hp => ?_⟩
        · have h := (if_pos hp).symm.trans h
          refine am_E.go (n := 4) rfl ?_
          obtain ⟨q33, hq, h⟩ := am_bindI h
          refine am_E.callF rfl (by decide) (axX8_freshOf hq) ?_
          cases h
          exact am_E.ret rfl ⟨rfl, rfl⟩
        have h := (if_neg hp).symm.trans h
        refine ⟨fun hp => ?_, fun hp => ?_⟩
        · have h := (if_pos hp).symm.trans h
          refine am_E.go (n := 4) rfl ?_
          obtain ⟨q34, hq, h⟩ := am_bindI h
          refine am_E.callF rfl (by decide) (axX8_freshOf hq) ?_
          cases h
          exact am_E.ret rfl ⟨rfl, rfl⟩
        have h := (if_neg hp).symm.trans h
        refine ⟨fun hp => ?_, fun hp => ?_⟩
        · have h := (if_pos hp).symm.trans h
          refine am_E.go (n := 4) rfl ?_
          obtain ⟨q35, hq, h⟩ := am_bindI h
          refine am_E.callF rfl (by decide) (axX8_freshOf hq) ?_
          cases h
          exact am_E.ret rfl ⟨rfl, rfl⟩
        have h := (if_neg hp).symm.trans h
        refine ⟨fun hp => ?_, fun hp => ?_⟩
        · have h := (if_pos hp).symm.trans h
          refine am_E.go (n := 2) rfl ?_
          obtain ⟨hg, h⟩ := am_ifI h
          refine am_E.grd rfl hg ?_
          cases h
          exact am_E.ret rfl ⟨rfl, rfl⟩
        have h := (if_neg hp).symm.trans h
        refine am_E.go (n := 4) rfl ?_
        obtain ⟨q36, hq, h⟩ := am_bindI h
        refine am_E.callF rfl (by decide) (axX8_freshOf hq) ?_
        cases h
        exact am_E.ret rfl ⟨rfl, rfl⟩
      · have h := (if_neg hp).symm.trans h
        refine am_E.go (n := 0) rfl ?_
        refine am_E.brk rfl (fun hp => ?_) (fun hp => ?_)
        · have h := (if_pos hp).symm.trans h
          refine am_E.go (n := 0) rfl ?_
          refine am_E.sw rfl ?_
          refine ⟨fun hp => ?_, fun hp => ?_⟩
          · have h := (if_pos hp).symm.trans h
            refine am_E.go (n := 2) rfl ?_
            obtain ⟨hg, h⟩ := am_ifI h
            refine am_E.grd rfl hg ?_
            cases h
            exact am_E.ret rfl ⟨rfl, rfl⟩
          have h := (if_neg hp).symm.trans h
          refine ⟨fun hp => ?_, fun hp => ?_⟩
          · have h := (if_pos hp).symm.trans h
            refine am_E.go (n := 3) rfl ?_
            obtain ⟨q37, hq, h⟩ := am_bindI h
            refine am_E.callF rfl (by decide) (axX8_count (by decide) hq) ?_
            cases h
            exact am_E.ret rfl ⟨rfl, rfl⟩
          have h := (if_neg hp).symm.trans h
          refine ⟨fun hp => ?_, fun hp => ?_⟩
          · have h := (if_pos hp).symm.trans h
            refine am_E.go (n := 3) rfl ?_
            obtain ⟨q38, hq, h⟩ := am_bindI h
            refine am_E.callF rfl (by decide) (axX8_count (by decide) hq) ?_
            cases h
            exact am_E.ret rfl ⟨rfl, rfl⟩
          have h := (if_neg hp).symm.trans h
          refine ⟨fun hp => ?_, fun hp => ?_⟩
          · have h := (if_pos hp).symm.trans h
            refine am_E.go (n := 4) rfl ?_
            obtain ⟨q39, hq, h⟩ := am_bindI h
            refine am_E.callF rfl (by decide) (axX8_freshOf hq) ?_
            cases h
            exact am_E.ret rfl ⟨rfl, rfl⟩
          have h := (if_neg hp).symm.trans h
          refine ⟨fun hp => ?_, fun hp => ?_⟩
          · have h := (if_pos hp).symm.trans h
            refine am_E.go (n := 4) rfl ?_
            obtain ⟨q40, hq, h⟩ := am_bindI h
            refine am_E.callF rfl (by decide) (axX8_freshOf hq) ?_
            cases h
            exact am_E.ret rfl ⟨rfl, rfl⟩
          have h := (if_neg hp).symm.trans h
          refine ⟨fun hp => ?_, fun hp => ?_⟩
          · have h := (if_pos hp).symm.trans h
            refine am_E.go (n := 4) rfl ?_
            obtain ⟨q41, hq, h⟩ := am_bindI h
            refine am_E.callF rfl (by decide) (axX8_freshOf hq) ?_
            cases h
            exact am_E.ret rfl ⟨rfl, rfl⟩
          have h := (if_neg hp).symm.trans h
          refine ⟨fun hp => ?_, fun hp => ?_⟩
          · have h := (if_pos hp).symm.trans h
            refine am_E.go (n := 2) rfl ?_
            obtain ⟨hg, h⟩ := am_ifI h
            refine am_E.grd rfl hg ?_
            cases h
            exact am_E.ret rfl ⟨rfl, rfl⟩
          have h := (if_neg hp).symm.trans h
          refine am_E.go (n := 4) rfl ?_
          obtain ⟨q42, hq, h⟩ := am_bindI h
          refine am_E.callF rfl (by decide) (axX8_freshOf hq) ?_
          cases h
          exact am_E.ret rfl ⟨rfl, rfl⟩
        · have h := (if_neg hp).symm.trans h
          refine am_E.go (n := 1) rfl ?_
          obtain ⟨q43, hq, h⟩ := am_bindI h
          obtain ⟨q43_1, q43_2, q43_3⟩ := q43
          refine am_E.callF rfl (by decide) (axX8_no hq) ?_
          cases h
          exact am_E.ret rfl ⟨rfl, rfl⟩
set_option maxHeartbeats 4000000 in
set_option maxRecDepth 100000 in
theorem axX8_says {I : Nat → Nat → Int32} {J : Nat → Nat → Int64} {a0 : Int32} {a1 : Int32} {r : Int32} {I' : Nat → Nat → Int32} {J' : Nat → Nat → Int64} (h : DX8_says I J a0 a1 = some (r, I', J')) : am_F 2 nX8_says [.ref 0, .int a0, .int a1, .retAddr 0, .retAddr 0, .retAddr 0] (TM, I, J, RM) (some (.int r)) (TM, I', J', RM) := by
  unfold DX8_says at h
  unfold am_F
  refine am_E.go (n := 1) rfl ?_
  refine am_E.callF rfl (by decide) (axX8_isShelf rfl) ?_
  refine am_E.brk rfl (fun hp => ?_) (fun hp => ?_)
  · have h := (if_pos hp).symm.trans h
    refine am_E.go (n := 1) rfl ?_
    obtain ⟨q1, hq, h⟩ := am_bindI h
    obtain ⟨q1_1, q1_2, q1_3⟩ := q1
    refine am_E.callF rfl (by decide) (axX8_no hq) ?_
    cases h
    exact am_E.ret rfl ⟨rfl, rfl⟩
  · have h := (if_neg hp).symm.trans h
    refine am_E.go (n := 0) rfl ?_
    refine am_E.brk rfl (fun hp => ?_) (fun hp => ?_)
    · have h := (if_pos hp).symm.trans h
      refine am_E.go (n := 1) rfl ?_
      obtain ⟨q2, hq, h⟩ := am_bindI h
      obtain ⟨q2_1, q2_2, q2_3⟩ := q2
      refine am_E.callF rfl (by decide) (axX8_no hq) ?_
      cases h
      exact am_E.ret rfl ⟨rfl, rfl⟩
    · have h := (if_neg hp).symm.trans h
      refine am_E.go (n := 1) rfl ?_
      refine am_E.brk rfl (fun hp => ?_) (fun hp => ?_)
      · have h := (if_pos hp).symm.trans h
        refine am_E.go (n := 2) rfl ?_
        obtain ⟨hg, h⟩ := am_ifI h
        refine am_E.grd rfl hg ?_
        refine am_E.go (n := 0) rfl ?_
        refine am_E.brk rfl (fun hp => ?_) (fun hp => ?_)
        · have h := (if_pos hp).symm.trans h
          refine am_E.go (n := 2) rfl ?_
          obtain ⟨hg, h⟩ := am_ifI h
          refine am_E.grd rfl hg ?_
          refine am_E.brk rfl (fun hp => ?_) (fun hp => ?_)
          · have h := (if_pos hp).symm.trans h
            refine am_E.go (n := 2) rfl ?_
            obtain ⟨hg, h⟩ := am_ifI h
            refine am_E.grd rfl hg ?_
            refine am_E.go (n := 3) rfl ?_
            obtain ⟨hg, h⟩ := am_ifI h
            refine am_E.grd rfl hg ?_
            refine am_E.go (n := 2) rfl ?_
            refine am_E.brk rfl (fun hp => ?_) (fun hp => ?_)
            · have h := (if_pos hp).symm.trans h
              refine am_E.go (n := 1) rfl ?_
              refine am_E.brk rfl (fun hp => ?_) (fun hp => ?_)
              · have h := (if_pos hp).symm.trans h
                refine am_E.go (n := 1) rfl ?_
                refine am_E.brk rfl (fun hp => ?_) (fun hp => ?_)
                · have h := (if_pos hp).symm.trans h
                  refine am_E.go (n := 1) rfl ?_
                  refine am_E.less (ls0 := [_, .retAddr 0, _, _, _, _]) ?_ ⟨Or.inl rfl, Or.inr ⟨rfl, rfl⟩, Or.inl rfl, Or.inl rfl, Or.inl rfl, Or.inl rfl, trivial⟩
                  exact (alX8_says am_FU) h
                · have h := (if_neg hp).symm.trans h
                  refine am_E.go (n := 1) rfl ?_
                  refine am_E.brk rfl (fun hp => ?_) (fun hp => ?_)
                  · have h := (if_pos hp).symm.trans h
                    refine am_E.go (n := 1) rfl ?_
                    refine am_E.less (ls0 := [_, .retAddr 0, _, _, _, _]) ?_ ⟨Or.inl rfl, Or.inr ⟨rfl, rfl⟩, Or.inl rfl, Or.inl rfl, Or.inl rfl, Or.inl rfl, trivial⟩
                    exact (alX8_says am_FU) h
                  · have h := (if_neg hp).symm.trans h
                    refine am_E.go (n := 2) rfl ?_
                    refine am_E.less (ls0 := [_, .retAddr 0, _, _, _, _]) ?_ ⟨Or.inl rfl, Or.inr ⟨rfl, rfl⟩, Or.inl rfl, Or.inl rfl, Or.inl rfl, Or.inl rfl, trivial⟩
                    exact (alX8_says am_FU) h
              · have h := (if_neg hp).symm.trans h
                refine am_E.go (n := 1) rfl ?_
                refine am_E.brk rfl (fun hp => ?_) (fun hp => ?_)
                · have h := (if_pos hp).symm.trans h
                  refine am_E.go (n := 2) rfl ?_
                  refine am_E.less (ls0 := [_, .retAddr 0, _, _, _, _]) ?_ ⟨Or.inl rfl, Or.inr ⟨rfl, rfl⟩, Or.inl rfl, Or.inl rfl, Or.inl rfl, Or.inl rfl, trivial⟩
                  exact (alX8_says am_FU) h
                · have h := (if_neg hp).symm.trans h
                  refine am_E.go (n := 1) rfl ?_
                  refine am_E.brk rfl (fun hp => ?_) (fun hp => ?_)
                  · have h := (if_pos hp).symm.trans h
                    refine am_E.go (n := 1) rfl ?_
                    refine am_E.less (ls0 := [_, .retAddr 0, _, _, _, _]) ?_ ⟨Or.inl rfl, Or.inr ⟨rfl, rfl⟩, Or.inl rfl, Or.inl rfl, Or.inl rfl, Or.inl rfl, trivial⟩
                    exact (alX8_says am_FU) h
                  · have h := (if_neg hp).symm.trans h
                    refine am_E.go (n := 1) rfl ?_
                    refine am_E.brk rfl (fun hp => ?_) (fun hp => ?_)
                    · have h := (if_pos hp).symm.trans h
                      refine am_E.go (n := 1) rfl ?_
                      refine am_E.less (ls0 := [_, .retAddr 0, _, _, _, _]) ?_ ⟨Or.inl rfl, Or.inr ⟨rfl, rfl⟩, Or.inl rfl, Or.inl rfl, Or.inl rfl, Or.inl rfl, trivial⟩
                      exact (alX8_says am_FU) h
                    · have h := (if_neg hp).symm.trans h
                      refine am_E.go (n := 2) rfl ?_
                      refine am_E.less (ls0 := [_, .retAddr 0, _, _, _, _]) ?_ ⟨Or.inl rfl, Or.inr ⟨rfl, rfl⟩, Or.inl rfl, Or.inl rfl, Or.inl rfl, Or.inl rfl, trivial⟩
                      exact (alX8_says am_FU) h
            · have h := (if_neg hp).symm.trans h
              refine am_E.go (n := 1) rfl ?_
              refine am_E.brk rfl (fun hp => ?_) (fun hp => ?_)
              · have h := (if_pos hp).symm.trans h
                refine am_E.go (n := 2) rfl ?_
                refine am_E.less (ls0 := [_, .retAddr 0, _, _, _, _]) ?_ ⟨Or.inl rfl, Or.inr ⟨rfl, rfl⟩, Or.inl rfl, Or.inl rfl, Or.inl rfl, Or.inl rfl, trivial⟩
                exact (alX8_says am_FU) h
              · have h := (if_neg hp).symm.trans h
                refine am_E.go (n := 1) rfl ?_
                refine am_E.brk rfl (fun hp => ?_) (fun hp => ?_)
                · have h := (if_pos hp).symm.trans h
                  refine am_E.go (n := 1) rfl ?_
                  refine am_E.brk rfl (fun hp => ?_) (fun hp => ?_)
                  · have h := (if_pos hp).symm.trans h
                    refine am_E.go (n := 1) rfl ?_
                    refine am_E.less (ls0 := [_, .retAddr 0, _, _, _, _]) ?_ ⟨Or.inl rfl, Or.inr ⟨rfl, rfl⟩, Or.inl rfl, Or.inl rfl, Or.inl rfl, Or.inl rfl, trivial⟩
                    exact (alX8_says am_FU) h
                  · have h := (if_neg hp).symm.trans h
                    refine am_E.go (n := 1) rfl ?_
                    refine am_E.brk rfl (fun hp => ?_) (fun hp => ?_)
                    · have h := (if_pos hp).symm.trans h
                      refine am_E.go (n := 1) rfl ?_
                      refine am_E.less (ls0 := [_, .retAddr 0, _, _, _, _]) ?_ ⟨Or.inl rfl, Or.inr ⟨rfl, rfl⟩, Or.inl rfl, Or.inl rfl, Or.inl rfl, Or.inl rfl, trivial⟩
                      exact (alX8_says am_FU) h
                    · have h := (if_neg hp).symm.trans h
                      refine am_E.go (n := 2) rfl ?_
                      refine am_E.less (ls0 := [_, .retAddr 0, _, _, _, _]) ?_ ⟨Or.inl rfl, Or.inr ⟨rfl, rfl⟩, Or.inl rfl, Or.inl rfl, Or.inl rfl, Or.inl rfl, trivial⟩
                      exact (alX8_says am_FU) h
                · have h := (if_neg hp).symm.trans h
                  refine am_E.go (n := 1) rfl ?_
                  refine am_E.brk rfl (fun hp => ?_) (fun hp => ?_)
                  · have h := (if_pos hp).symm.trans h
                    refine am_E.go (n := 2) rfl ?_
                    refine am_E.less (ls0 := [_, .retAddr 0, _, _, _, _]) ?_ ⟨Or.inl rfl, Or.inr ⟨rfl, rfl⟩, Or.inl rfl, Or.inl rfl, Or.inl rfl, Or.inl rfl, trivial⟩
                    exact (alX8_says am_FU) h
                  · have h := (if_neg hp).symm.trans h
                    refine am_E.go (n := 1) rfl ?_
                    refine am_E.brk rfl (fun hp => ?_) (fun hp => ?_)
                    · have h := (if_pos hp).symm.trans h
                      refine am_E.go (n := 1) rfl ?_
                      refine am_E.less (ls0 := [_, .retAddr 0, _, _, _, _]) ?_ ⟨Or.inl rfl, Or.inr ⟨rfl, rfl⟩, Or.inl rfl, Or.inl rfl, Or.inl rfl, Or.inl rfl, trivial⟩
                      exact (alX8_says am_FU) h
                    · have h := (if_neg hp).symm.trans h
                      refine am_E.go (n := 1) rfl ?_
                      refine am_E.brk rfl (fun hp => ?_) (fun hp => ?_)
                      · have h := (if_pos hp).symm.trans h
                        refine am_E.go (n := 1) rfl ?_
                        refine am_E.less (ls0 := [_, .retAddr 0, _, _, _, _]) ?_ ⟨Or.inl rfl, Or.inr ⟨rfl, rfl⟩, Or.inl rfl, Or.inl rfl, Or.inl rfl, Or.inl rfl, trivial⟩
                        exact (alX8_says am_FU) h
                      · have h := (if_neg hp).symm.trans h
                        refine am_E.go (n := 2) rfl ?_
                        refine am_E.less (ls0 := [_, .retAddr 0, _, _, _, _]) ?_ ⟨Or.inl rfl, Or.inr ⟨rfl, rfl⟩, Or.inl rfl, Or.inl rfl, Or.inl rfl, Or.inl rfl, trivial⟩
                        exact (alX8_says am_FU) h
          · have h := (if_neg hp).symm.trans h
            refine am_E.go (n := 1) rfl ?_
            obtain ⟨q3, hq, h⟩ := am_bindI h
            obtain ⟨q3_1, q3_2, q3_3⟩ := q3
            refine am_E.callF rfl (by decide) (axX8_no hq) ?_
            cases h
            exact am_E.ret rfl ⟨rfl, rfl⟩
        · have h := (if_neg hp).symm.trans h
          refine am_E.go (n := 1) rfl ?_
          obtain ⟨q4, hq, h⟩ := am_bindI h
          obtain ⟨q4_1, q4_2, q4_3⟩ := q4
          refine am_E.callF rfl (by decide) (axX8_no hq) ?_
          cases h
          exact am_E.ret rfl ⟨rfl, rfl⟩
      · have h := (if_neg hp).symm.trans h
        refine am_E.go (n := 1) rfl ?_
        obtain ⟨q5, hq, h⟩ := am_bindI h
        obtain ⟨q5_1, q5_2, q5_3⟩ := q5
        refine am_E.callF rfl (by decide) (axX8_no hq) ?_
        cases h
        exact am_E.ret rfl ⟨rfl, rfl⟩
def DX8_wanted (I : Nat → Nat → Int32) (a0 : Int32) : Option Int32 :=
  if ¬ (DX8_isShelf a0) = 0 then
    if ¬ (a0 < 0 ∨ 8 ≤ (a0).toNatClampNeg) then
      if ¬ (I 11 (a0).toNatClampNeg) = (2 : Int32) then
        if ¬ (a0 < 0 ∨ 8 ≤ (a0).toNatClampNeg) then
          if ¬ (I 11 (a0).toNatClampNeg) = 0 then
            some ((0 : Int32))
          else
            some ((-3 : Int32))
        else none
      else
        some ((-2 : Int32))
    else none
  else
    some ((-1 : Int32))
set_option maxHeartbeats 4000000 in
set_option maxRecDepth 100000 in
theorem axX8_wanted {I : Nat → Nat → Int32} {J : Nat → Nat → Int64} {a0 : Int32} {r : Int32} (h : DX8_wanted I a0 = some r) : am_F 1 nX8_wanted [.ref 0, .int a0] (TM, I, J, RM) (some (.int r)) (TM, I, J, RM) := by
  unfold DX8_wanted at h
  unfold am_F
  refine am_E.go (n := 1) rfl ?_
  refine am_E.callF rfl (by decide) (axX8_isShelf rfl) ?_
  refine am_E.brk rfl (fun hp => ?_) (fun hp => ?_)
  · have h := (if_pos hp).symm.trans h
    refine am_E.go (n := 2) rfl ?_
    obtain ⟨hg, h⟩ := am_ifI h
    refine am_E.grd rfl hg ?_
    refine am_E.go (n := 0) rfl ?_
    refine am_E.brk rfl (fun hp => ?_) (fun hp => ?_)
    · have h := (if_pos hp).symm.trans h
      refine am_E.go (n := 2) rfl ?_
      obtain ⟨hg, h⟩ := am_ifI h
      refine am_E.grd rfl hg ?_
      refine am_E.brk rfl (fun hp => ?_) (fun hp => ?_)
      · have h := (if_pos hp).symm.trans h
        refine am_E.go (n := 0) rfl ?_
        cases h
        exact am_E.ret rfl ⟨rfl, rfl⟩
      · have h := (if_neg hp).symm.trans h
        refine am_E.go (n := 1) rfl ?_
        cases h
        exact am_E.ret rfl ⟨rfl, rfl⟩
    · have h := (if_neg hp).symm.trans h
      refine am_E.go (n := 1) rfl ?_
      cases h
      exact am_E.ret rfl ⟨rfl, rfl⟩
  · have h := (if_neg hp).symm.trans h
    refine am_E.go (n := 1) rfl ?_
    cases h
    exact am_E.ret rfl ⟨rfl, rfl⟩
def DX8_intAt (J : Nat → Nat → Int64) (a0 : Int32) (a1 : Int32) : Option Int32 :=
  if ¬ ((((160 : Int32) * a0) + a1) < 0 ∨ 1280 ≤ ((((160 : Int32) * a0) + a1)).toNatClampNeg) then
    some (((J 15 ((((160 : Int32) * a0) + a1)).toNatClampNeg)).toInt32)
  else none
set_option maxHeartbeats 4000000 in
set_option maxRecDepth 100000 in
theorem axX8_intAt {I : Nat → Nat → Int32} {J : Nat → Nat → Int64} {a0 : Int32} {a1 : Int32} {r : Int32} (h : DX8_intAt J a0 a1 = some r) : am_F 0 nX8_intAt [.ref 0, .int a0, .int a1] (TM, I, J, RM) (some (.int r)) (TM, I, J, RM) := by
  unfold DX8_intAt at h
  unfold am_F
  refine am_E.go (n := 6) rfl ?_
  obtain ⟨hg, h⟩ := am_ifI h
  refine am_E.grd rfl hg ?_
  refine am_E.go (n := 0) rfl ?_
  cases h
  exact am_E.ret rfl ⟨rfl, rfl⟩
def DX8_bars (I : Nat → Nat → Int32) (a0 : Int32) (a1 : Int32) : Option Int32 :=
  (DX8_wanted I a0).bind fun q1 =>
  if q1 = 0 then
    if 0 ≤ a1 then
      if ¬ (a0 < 0 ∨ 8 ≤ (a0).toNatClampNeg) then
        if a1 ≤ (I 13 (a0).toNatClampNeg) then
          some ((0 : Int32))
        else
          some ((-5 : Int32))
      else none
    else
      some ((-4 : Int32))
  else
    some q1
set_option maxHeartbeats 4000000 in
set_option maxRecDepth 100000 in
theorem axX8_bars {I : Nat → Nat → Int32} {J : Nat → Nat → Int64} {a0 : Int32} {a1 : Int32} {r : Int32} (h : DX8_bars I a0 a1 = some r) : am_F 2 nX8_bars [.ref 0, .int a0, .int a1, .retAddr 0] (TM, I, J, RM) (some (.int r)) (TM, I, J, RM) := by
  unfold DX8_bars at h
  unfold am_F
  refine am_E.go (n := 1) rfl ?_
  obtain ⟨q1, hq, h⟩ := am_bindI h
  refine am_E.callF rfl (by decide) (axX8_wanted hq) ?_
  refine am_E.go (n := 1) rfl ?_
  refine am_E.brk rfl (fun hp => ?_) (fun hp => ?_)
  · have h := (if_pos hp).symm.trans h
    refine am_E.go (n := 0) rfl ?_
    refine am_E.brk rfl (fun hp => ?_) (fun hp => ?_)
    · have h := (if_pos hp).symm.trans h
      refine am_E.go (n := 3) rfl ?_
      obtain ⟨hg, h⟩ := am_ifI h
      refine am_E.grd rfl hg ?_
      refine am_E.brk rfl (fun hp => ?_) (fun hp => ?_)
      · have h := (if_pos hp).symm.trans h
        refine am_E.go (n := 0) rfl ?_
        cases h
        exact am_E.ret rfl ⟨rfl, rfl⟩
      · have h := (if_neg hp).symm.trans h
        refine am_E.go (n := 1) rfl ?_
        cases h
        exact am_E.ret rfl ⟨rfl, rfl⟩
    · have h := (if_neg hp).symm.trans h
      refine am_E.go (n := 1) rfl ?_
      cases h
      exact am_E.ret rfl ⟨rfl, rfl⟩
  · have h := (if_neg hp).symm.trans h
    refine am_E.go (n := 0) rfl ?_
    cases h
    exact am_E.ret rfl ⟨rfl, rfl⟩
