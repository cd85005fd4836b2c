/-! THE METHODS AS FUNCTIONS over the memory, and the row that their runs do so: laid by program (wip/whole/decomp.py) -/
def DX1_layOn (I : Nat → Nat → Int32) (J : Nat → Nat → Int64) (o : Nat) (a0 : Int32) (a1 : Int32) : Option (Int32 × (Nat → Nat → Int32) × (Nat → Nat → Int64)) :=
  (DX1_takeOver I J o a0 a1).bind fun q1 =>
  some ((0 : Int32), q1.2.1, q1.2.2)
set_option maxHeartbeats 4000000 in
set_option maxRecDepth 100000 in
theorem axX1_layOn {I : Nat → Nat → Int32} {J : Nat → Nat → Int64} {o : Nat} {a0 : Int32} {a1 : Int32} {r : Int32} {I' : Nat → Nat → Int32} {J' : Nat → Nat → Int64} (ho : dm_b o) (h : DX1_layOn I J o a0 a1 = some (r, I', J')) : am_F 2 nX1_layOn [.ref o, .int a0, .int a1] (TX, I, J, RX) (none) (TX, I', J', RX) := by
  unfold DX1_layOn at h
  unfold am_F
  unfold dm_b at ho
  rcases ho with rfl | rfl | rfl
  all_goals
    refine am_E.go (n := 2) rfl ?_
    obtain ⟨q1, hq, h⟩ := am_bindI h
    obtain ⟨q1_1, q1_2, q1_3⟩ := q1
    refine am_E.callF rfl (by decide) (axX1_takeOver (by decide) hq) ?_
    cases h
    exact am_E.ret rfl ⟨rfl, rfl⟩
def DX1_makeBare (I : Nat → Nat → Int32) (J : Nat → Nat → Int64) (o : Nat) (a0 : Int32) : Option (Int32 × (Nat → Nat → Int32) × (Nat → Nat → Int64)) :=
  (DX1_takeOver I J o a0 ((-1 : Int32))).bind fun q1 =>
  some ((0 : Int32), q1.2.1, q1.2.2)
set_option maxHeartbeats 4000000 in
set_option maxRecDepth 100000 in
theorem axX1_makeBare {I : Nat → Nat → Int32} {J : Nat → Nat → Int64} {o : Nat} {a0 : Int32} {r : Int32} {I' : Nat → Nat → Int32} {J' : Nat → Nat → Int64} (ho : dm_b o) (h : DX1_makeBare I J o a0 = some (r, I', J')) : am_F 2 nX1_makeBare [.ref o, .int a0] (TX, I, J, RX) (none) (TX, I', J', RX) := by
  unfold DX1_makeBare at h
  unfold am_F
  unfold dm_b at ho
  rcases ho with rfl | rfl | rfl
  all_goals
    refine am_E.go (n := 2) rfl ?_
    obtain ⟨q1, hq, h⟩ := am_bindI h
    obtain ⟨q1_1, q1_2, q1_3⟩ := q1
    refine am_E.callF rfl (by decide) (axX1_takeOver (by decide) hq) ?_
    cases h
    exact am_E.ret rfl ⟨rfl, rfl⟩
def DX1_wetness (I : Nat → Nat → Int32) (o : Nat) : Int32 :=
  (I o 11)
set_option maxHeartbeats 4000000 in
set_option maxRecDepth 100000 in
theorem axX1_wetness {I : Nat → Nat → Int32} {J : Nat → Nat → Int64} {o : Nat} {r : Int32} (ho : dm_b o) (h : DX1_wetness I o = r) : am_F 0 nX1_wetness [.ref o] (TX, I, J, RX) (some (.int r)) (TX, I, J, RX) := by
  unfold DX1_wetness at h
  unfold am_F
  unfold dm_b at ho
  rcases ho with rfl | rfl | rfl
  all_goals
    refine am_E.go (n := 1) rfl ?_
    subst h
    exact am_E.ret rfl ⟨rfl, rfl⟩
def DX1_sunnySide (I : Nat → Nat → Int32) (o : Nat) : Int32 :=
  (I o 10)
set_option maxHeartbeats 4000000 in
set_option maxRecDepth 100000 in
theorem axX1_sunnySide {I : Nat → Nat → Int32} {J : Nat → Nat → Int64} {o : Nat} {r : Int32} (ho : dm_b o) (h : DX1_sunnySide I o = r) : am_F 0 nX1_sunnySide [.ref o] (TX, I, J, RX) (some (.int r)) (TX, I, J, RX) := by
  unfold DX1_sunnySide at h
  unfold am_F
  unfold dm_b at ho
  rcases ho with rfl | rfl | rfl
  all_goals
    refine am_E.go (n := 1) rfl ?_
    subst h
    exact am_E.ret rfl ⟨rfl, rfl⟩
def DX1_hourNow (I : Nat → Nat → Int32) (o : Nat) : Int32 :=
  (I o 12)
set_option maxHeartbeats 4000000 in
set_option maxRecDepth 100000 in
theorem axX1_hourNow {I : Nat → Nat → Int32} {J : Nat → Nat → Int64} {o : Nat} {r : Int32} (ho : dm_b o) (h : DX1_hourNow I o = r) : am_F 0 nX1_hourNow [.ref o] (TX, I, J, RX) (some (.int r)) (TX, I, J, RX) := by
  unfold DX1_hourNow at h
  unfold am_F
  unfold dm_b at ho
  rcases ho with rfl | rfl | rfl
  all_goals
    refine am_E.go (n := 1) rfl ?_
    subst h
    exact am_E.ret rfl ⟨rfl, rfl⟩
def DX1_crackCount (I : Nat → Nat → Int32) (o : Nat) : Int32 :=
  (I o 13)
set_option maxHeartbeats 4000000 in
set_option maxRecDepth 100000 in
theorem axX1_crackCount {I : Nat → Nat → Int32} {J : Nat → Nat → Int64} {o : Nat} {r : Int32} (ho : dm_b o) (h : DX1_crackCount I o = r) : am_F 0 nX1_crackCount [.ref o] (TX, I, J, RX) (some (.int r)) (TX, I, J, RX) := by
  unfold DX1_crackCount at h
  unfold am_F
  unfold dm_b at ho
  rcases ho with rfl | rfl | rfl
  all_goals
    refine am_E.go (n := 1) rfl ?_
    subst h
    exact am_E.ret rfl ⟨rfl, rfl⟩
def DX1_turnTo (I : Nat → Nat → Int32) (J : Nat → Nat → Int64) (o : Nat) (a0 : Int32) : Option (Int32 × (Nat → Nat → Int32) × (Nat → Nat → Int64)) :=
  some ((0 : Int32), (am_upI I o 10 a0), J)
set_option maxHeartbeats 4000000 in
set_option maxRecDepth 100000 in
theorem axX1_turnTo {I : Nat → Nat → Int32} {J : Nat → Nat → Int64} {o : Nat} {a0 : Int32} {r : Int32} {I' : Nat → Nat → Int32} {J' : Nat → Nat → Int64} (ho : dm_b o) (h : DX1_turnTo I J o a0 = some (r, I', J')) : am_F 0 nX1_turnTo [.ref o, .int a0] (TX, I, J, RX) (none) (TX, I', J', RX) := by
  unfold DX1_turnTo at h
  unfold am_F
  unfold dm_b at ho
  rcases ho with rfl | rfl | rfl
  all_goals
    refine am_E.go (n := 2) rfl ?_
    cases h
    exact am_E.ret rfl ⟨rfl, rfl⟩
def DX1_driedByAnHour (I : Nat → Nat → Int32) (o : Nat) : Int32 :=
  if ¬ (I o 10) = 0 then
    (2 : Int32)
  else
    (1 : Int32)
set_option maxHeartbeats 4000000 in
set_option maxRecDepth 100000 in
theorem axX1_driedByAnHour {I : Nat → Nat → Int32} {J : Nat → Nat → Int64} {o : Nat} {r : Int32} (ho : dm_b o) (h : DX1_driedByAnHour I o = r) : am_F 0 nX1_driedByAnHour [.ref o] (TX, I, J, RX) (some (.int r)) (TX, I, J, RX) := by
  unfold DX1_driedByAnHour at h
  unfold am_F
  unfold dm_b at ho
  rcases ho with rfl | rfl | rfl
  all_goals
    refine am_E.go (n := 1) rfl ?_
    refine am_E.brk rfl (fun hp => ?_) (fun hp => ?_)
    · have h := (if_pos hp).symm.trans h
      refine am_E.go (n := 0) rfl ?_
      subst h
      exact am_E.ret rfl ⟨rfl, rfl⟩
    · have h := (if_neg hp).symm.trans h
      refine am_E.go (n := 1) rfl ?_
      subst h
      exact am_E.ret rfl ⟨rfl, rfl⟩
def DX1_wetBySpray (a0 : Int32) : Int32 :=
  (if (a0 + (10 : Int32)) < (99 : Int32) then (a0 + (10 : Int32)) else (99 : Int32))
set_option maxHeartbeats 4000000 in
set_option maxRecDepth 100000 in
theorem axX1_wetBySpray {I : Nat → Nat → Int32} {J : Nat → Nat → Int64} {a0 : Int32} {r : Int32} (h : DX1_wetBySpray a0 = r) : am_F 0 nX1_wetBySpray [.int a0] (TX, I, J, RX) (some (.int r)) (TX, I, J, RX) := by
  unfold DX1_wetBySpray at h
  unfold am_F
  refine am_E.go (n := 3) rfl ?_
  refine am_E.step rfl ?_
  subst h
  exact am_E.ret rfl ⟨rfl, rfl⟩
def DX1_isInSun (a0 : Int32) (a1 : Int32) : Option Int32 :=
  if ¬ (4 : Int32) = 0 then
    if (2 : Int32) ≤ (a0 - a0 / (4 : Int32) * (4 : Int32)) then
      if ¬ a1 = (2 : Int32) then
        some ((0 : Int32))
      else
        some ((1 : Int32))
    else
      if ¬ a1 = (1 : Int32) then
        some ((0 : Int32))
      else
        some ((1 : Int32))
  else none
set_option maxHeartbeats 4000000 in
set_option maxRecDepth 100000 in
theorem axX1_isInSun {I : Nat → Nat → Int32} {J : Nat → Nat → Int64} {a0 : Int32} {a1 : Int32} {r : Int32} (h : DX1_isInSun a0 a1 = some r) : am_F 0 nX1_isInSun [.int a0, .int a1, .retAddr 0] (TX, I, J, RX) (some (.int r)) (TX, I, J, RX) := by
  unfold DX1_isInSun at h
  unfold am_F
  refine am_E.go (n := 1) rfl ?_
  obtain ⟨hg, h⟩ := am_ifI h
  refine am_E.grd rfl hg ?_
  refine am_E.go (n := 0) rfl ?_
  refine am_E.brk rfl (fun hp => ?_) (fun hp => ?_)
  · have h := (if_pos hp).symm.trans h
    refine am_E.go (n := 3) rfl ?_
    refine am_E.brk rfl (fun hp => ?_) (fun hp => ?_)
    · have h := (if_pos hp).symm.trans h
      refine am_E.go (n := 0) rfl ?_
      cases h
      first | exact am_E.ret rfl ⟨rfl, rfl⟩ | exact am_E.retG rfl (by decide) ⟨rfl, rfl⟩
    · have h := (if_neg hp).symm.trans h
      refine am_E.go (n := 1) rfl ?_
      cases h
      first | exact am_E.ret rfl ⟨rfl, rfl⟩ | exact am_E.retG rfl (by decide) ⟨rfl, rfl⟩
  · have h := (if_neg hp).symm.trans h
    refine am_E.go (n := 4) rfl ?_
    refine am_E.brk rfl (fun hp => ?_) (fun hp => ?_)
    · have h := (if_pos hp).symm.trans h
      refine am_E.go (n := 0) rfl ?_
      cases h
      first | exact am_E.ret rfl ⟨rfl, rfl⟩ | exact am_E.retG rfl (by decide) ⟨rfl, rfl⟩
    · have h := (if_neg hp).symm.trans h
      refine am_E.go (n := 1) rfl ?_
      cases h
      first | exact am_E.ret rfl ⟨rfl, rfl⟩ | exact am_E.retG rfl (by decide) ⟨rfl, rfl⟩
def LX1_sprayOnce : Nat → (Nat → Nat → Int32) → (Nat → Nat → Int64) → Nat → Int32 → Option (Int32 × (Nat → Nat → Int32) × (Nat → Nat → Int64))
  | 0, _, _, _, _ => none
  | n + 1, I, J, o, x1 =>
    if (24 : Int32) ≤ x1 then
      some ((0 : Int32), I, J)
    else
      if ¬ (x1 < 0 ∨ 24 ≤ (x1).toNatClampNeg) then
        if (I (o + 5) (x1).toNatClampNeg) = (-1 : Int32) then
          LX1_sprayOnce n I J o ((x1 + (1 : Int32)))
        else
          if ¬ (x1 < 0 ∨ 24 ≤ (x1).toNatClampNeg) then
            if ¬ (x1 < 0 ∨ 24 ≤ (x1).toNatClampNeg) then
              LX1_sprayOnce n ((am_upI I (o + 9) (x1).toNatClampNeg ((I (o + 9) (x1).toNatClampNeg) + (1 : Int32)))) J o ((x1 + (1 : Int32)))
            else none
          else none
      else none
def DX1_sprayOnce (I : Nat → Nat → Int32) (J : Nat → Nat → Int64) (o : Nat) : Option (Int32 × (Nat → Nat → Int32) × (Nat → Nat → Int64)) :=
  LX1_sprayOnce am_FU ((am_upI I o 11 (DX1_wetBySpray ((I o 11))))) J o ((0 : Int32))
set_option maxHeartbeats 4000000 in
set_option maxRecDepth 100000 in
theorem alX1_sprayOnce : ∀ (n : Nat), ∀ {I : Nat → Nat → Int32} {J : Nat → Nat → Int64} {o : Nat} {x1 : Int32} {I' : Nat → Nat → Int32} {J' : Nat → Nat → Int64} {r : Int32}, dm_b o → LX1_sprayOnce n I J o x1 = some (r, I', J') → am_E 1 nX1_sprayOnce (13, [.ref o, .int x1], [], (TX, I, J, RX)) (fun v M' => v = none ∧ M' = (TX, I', J', RX)) := by
  intro n
  induction n with
  | zero => intros; contradiction
  | succ n ih =>
    intro I J o x1 I' J' r ho h
    simp only [LX1_sprayOnce] at h
    unfold dm_b at ho
    rcases ho with rfl | rfl | rfl
    all_goals
      refine am_E.go (n := 1) rfl ?_
      refine am_E.brk rfl (fun hp => ?_) (fun hp => ?_)
      · have h := (if_pos hp).symm.trans h
        cases h
        exact am_E.ret rfl ⟨rfl, rfl⟩
      · have h := (if_neg hp).symm.trans h
        refine am_E.go (n := 2) rfl ?_
        obtain ⟨hg, h⟩ := am_ifI h
        refine am_E.grd rfl hg ?_
        refine am_E.go (n := 0) rfl ?_
        refine am_E.brk rfl (fun hp => ?_) (fun hp => ?_)
        · have h := (if_pos hp).symm.trans h
          refine am_E.go (n := 1) rfl ?_
          exact ih (by decide) h
        · have h := (if_neg hp).symm.trans h
          refine am_E.go (n := 3) rfl ?_
          obtain ⟨hg, h⟩ := am_ifI h
          refine am_E.grd rfl hg ?_
          refine am_E.go (n := 1) rfl ?_
          obtain ⟨hg, h⟩ := am_ifI h
          refine am_E.grd rfl hg ?_
          refine am_E.go (n := 1) rfl ?_
          exact ih (by decide) h
set_option maxHeartbeats 4000000 in
set_option maxRecDepth 100000 in
theorem axX1_sprayOnce {I : Nat → Nat → Int32} {J : Nat → Nat → Int64} {o : Nat} {r : Int32} {I' : Nat → Nat → Int32} {J' : Nat → Nat → Int64} (ho : dm_b o) (h : DX1_sprayOnce I J o = some (r, I', J')) : am_F 1 nX1_sprayOnce [.ref o, .retAddr 0] (TX, I, J, RX) (none) (TX, I', J', RX) := by
  unfold DX1_sprayOnce at h
  unfold am_F
  unfold dm_b at ho
  rcases ho with rfl | rfl | rfl
  all_goals
    refine am_E.go (n := 2) rfl ?_
    refine am_E.callF rfl (by decide) (axX1_wetBySpray rfl) ?_
    refine am_E.go (n := 2) rfl ?_
    exact (alX1_sprayOnce am_FU) (by decide) h
def DX1_dryForAnHour (I : Nat → Nat → Int32) (J : Nat → Nat → Int64) (o : Nat) : Option (Int32 × (Nat → Nat → Int32) × (Nat → Nat → Int64)) :=
  (some (am_upI I o 11 (if (0 : Int32) < ((I o 11) - (DX1_driedByAnHour I o)) then ((I o 11) - (DX1_driedByAnHour I o)) else (0 : Int32)))).bind fun I1 =>
  if ¬ (I1 o 11) = 0 then
    some ((0 : Int32), I1, J)
  else
    some ((0 : Int32), (am_upI I1 o 13 ((I1 o 13) + (1 : Int32))), J)
set_option maxHeartbeats 4000000 in
set_option maxRecDepth 100000 in
theorem axX1_dryForAnHour {I : Nat → Nat → Int32} {J : Nat → Nat → Int64} {o : Nat} {r : Int32} {I' : Nat → Nat → Int32} {J' : Nat → Nat → Int64} (ho : dm_b o) (h : DX1_dryForAnHour I J o = some (r, I', J')) : am_F 1 nX1_dryForAnHour [.ref o] (TX, I, J, RX) (none) (TX, I', J', RX) := by
  unfold DX1_dryForAnHour at h
  unfold am_F
  unfold dm_b at ho
  rcases ho with rfl | rfl | rfl
  all_goals
    refine am_E.go (n := 4) rfl ?_
    refine am_E.callF rfl (by decide) (axX1_driedByAnHour (by decide) rfl) ?_
    refine am_E.go (n := 0) rfl ?_
    refine am_E.step rfl ?_
    refine am_E.go (n := 2) rfl ?_
    obtain ⟨I1, hI, h⟩ := am_bindI h
    obtain rfl := Option.some.inj hI
    refine am_E.brk rfl (fun hp => ?_) (fun hp => ?_)
    · have h := (if_pos hp).symm.trans h
      cases h
      exact am_E.ret rfl ⟨rfl, rfl⟩
    · have h := (if_neg hp).symm.trans h
      refine am_E.go (n := 5) rfl ?_
      cases h
      exact am_E.ret rfl ⟨rfl, rfl⟩
def LX1_passHours : Nat → Nat → (Nat → Nat → Int32) → (Nat → Nat → Int64) → Nat → Int32 → Int32 → Option (Int32 × (Nat → Nat → Int32) × (Nat → Nat → Int64))
  | 0, _, _, _, _, _, _ => none
  | n + 1, 0, I, J, o, x1, x2 =>
    if (24 : Int32) ≤ x2 then
      LX1_passHours n 1 I J o x1 ((0 : Int32))
    else
      if ¬ (x2 < 0 ∨ 24 ≤ (x2).toNatClampNeg) then
        if ¬ (I (o + 5) (x2).toNatClampNeg) = (-1 : Int32) then
          (DX1_isInSun x2 ((I o 10))).bind fun q3 =>
          if q3 = 0 then
            if ¬ (x2 < 0 ∨ 24 ≤ (x2).toNatClampNeg) then
              if ¬ (x2 < 0 ∨ 24 ≤ (x2).toNatClampNeg) then
                LX1_passHours n 0 ((am_upI I (o + 8) (x2).toNatClampNeg ((I (o + 8) (x2).toNatClampNeg) + x1))) J o x1 ((x2 + (1 : Int32)))
              else none
            else none
          else
            if ¬ (x2 < 0 ∨ 24 ≤ (x2).toNatClampNeg) then
              if ¬ (x2 < 0 ∨ 24 ≤ (x2).toNatClampNeg) then
                LX1_passHours n 0 ((am_upI I (o + 7) (x2).toNatClampNeg ((I (o + 7) (x2).toNatClampNeg) + x1))) J o x1 ((x2 + (1 : Int32)))
              else none
            else none
        else
          LX1_passHours n 0 I J o x1 ((x2 + (1 : Int32)))
      else none
  | n + 1, _, I, J, o, x1, x2 =>
    if x1 ≤ x2 then
      some ((0 : Int32), (am_upI I o 12 ((I o 12) + x1)), J)
    else
      (DX1_dryForAnHour I J o).bind fun q4 =>
      LX1_passHours n 1 q4.2.1 q4.2.2 o x1 ((x2 + (1 : Int32)))
def DX1_passHours (I : Nat → Nat → Int32) (J : Nat → Nat → Int64) (o : Nat) (a0 : Int32) : Option (Int32 × (Nat → Nat → Int32) × (Nat → Nat → Int64)) :=
  LX1_passHours am_FU 0 I J o a0 ((0 : Int32))
set_option maxHeartbeats 4000000 in
set_option maxRecDepth 100000 in
theorem alX1_passHours : ∀ (n : Nat), (∀ {I : Nat → Nat → Int32} {J : Nat → Nat → Int64} {o : Nat} {x1 : Int32} {x2 : Int32} {I' : Nat → Nat → Int32} {J' : Nat → Nat → Int64} {r : Int32}, dm_b o → LX1_passHours n 0 I J o x1 x2 = some (r, I', J') → am_E 2 nX1_passHours (2, [.ref o, .int x1, .int x2], [], (TX, I, J, RX)) (fun v M' => v = none ∧ M' = (TX, I', J', RX))) ∧
    (∀ {I : Nat → Nat → Int32} {J : Nat → Nat → Int64} {o : Nat} {x1 : Int32} {x2 : Int32} {I' : Nat → Nat → Int32} {J' : Nat → Nat → Int64} {r : Int32}, dm_b o → LX1_passHours n 1 I J o x1 x2 = some (r, I', J') → am_E 2 nX1_passHours (63, [.ref o, .int x1, .int x2], [], (TX, I, J, RX)) (fun v M' => v = none ∧ M' = (TX, I', J', RX))) := by
  intro n
  induction n with
  | zero => exact ⟨by intros; contradiction, by intros; contradiction⟩
  | succ n ih =>
    refine ⟨?_, ?_⟩
    · intro I J o x1 x2 I' J' r ho h
      simp only [LX1_passHours] at h
      unfold dm_b at ho
      rcases ho with rfl | rfl | rfl
      all_goals
        refine am_E.go (n := 1) rfl ?_
        refine am_E.brk rfl (fun hp => ?_) (fun hp => ?_)
        · have h := (if_pos hp).symm.trans h
          refine am_E.go (n := 1) rfl ?_
          exact ih.2 (by decide) h
        · have h := (if_neg hp).symm.trans h
          refine am_E.go (n := 2) rfl ?_
          obtain ⟨hg, h⟩ := am_ifI h
          refine am_E.grd rfl hg ?_
          refine am_E.go (n := 0) rfl ?_
          refine am_E.brk rfl (fun hp => ?_) (fun hp => ?_)
          · have h := (if_pos hp).symm.trans h
            refine am_E.go (n := 2) rfl ?_
            obtain ⟨q3, hq, h⟩ := am_bindI h
            refine am_E.callF rfl (by decide) (axX1_isInSun hq) ?_
            refine am_E.brk rfl (fun hp => ?_) (fun hp => ?_)
            · have h := (if_pos hp).symm.trans h
              refine am_E.go (n := 3) rfl ?_
              obtain ⟨hg, h⟩ := am_ifI h
              refine am_E.grd rfl hg ?_
              refine am_E.go (n := 1) rfl ?_
              obtain ⟨hg, h⟩ := am_ifI h
              refine am_E.grd rfl hg ?_
              refine am_E.go (n := 1) rfl ?_
              exact ih.1 (by decide) h
            · have h := (if_neg hp).symm.trans h
              refine am_E.go (n := 3) rfl ?_
              obtain ⟨hg, h⟩ := am_ifI h
              refine am_E.grd rfl hg ?_
              refine am_E.go (n := 1) rfl ?_
              obtain ⟨hg, h⟩ := am_ifI h
              refine am_E.grd rfl hg ?_
              refine am_E.go (n := 2) rfl ?_
              exact ih.1 (by decide) h
          · have h := (if_neg hp).symm.trans h
            refine am_E.go (n := 2) rfl ?_
            exact ih.1 (by decide) h
    · intro I J o x1 x2 I' J' r ho h
      simp only [LX1_passHours] at h
      unfold dm_b at ho
      rcases ho with rfl | rfl | rfl
      all_goals
        refine am_E.go (n := 1) rfl ?_
        refine am_E.brk rfl (fun hp => ?_) (fun hp => ?_)
        · have h := (if_pos hp).symm.trans h
          refine am_E.go (n := 5) rfl ?_
          cases h
          exact am_E.ret rfl ⟨rfl, rfl⟩
        · have h := (if_neg hp).symm.trans h
          refine am_E.go (n := 0) rfl ?_
          obtain ⟨q4, hq, h⟩ := am_bindI h
          obtain ⟨q4_1, q4_2, q4_3⟩ := q4
          refine am_E.callF rfl (by decide) (axX1_dryForAnHour (by decide) hq) ?_
          refine am_E.go (n := 1) rfl ?_
          exact ih.2 (by decide) h
set_option maxHeartbeats 4000000 in
set_option maxRecDepth 100000 in
theorem axX1_passHours {I : Nat → Nat → Int32} {J : Nat → Nat → Int64} {o : Nat} {a0 : Int32} {r : Int32} {I' : Nat → Nat → Int32} {J' : Nat → Nat → Int64} (ho : dm_b o) (h : DX1_passHours I J o a0 = some (r, I', J')) : am_F 2 nX1_passHours [.ref o, .int a0, .retAddr 0] (TX, I, J, RX) (none) (TX, I', J', RX) := by
  unfold DX1_passHours at h
  unfold am_F
  unfold dm_b at ho
  rcases ho with rfl | rfl | rfl
  all_goals
    refine am_E.go (n := 1) rfl ?_
    exact (alX1_passHours am_FU).1 (by decide) h
def DX1_seedNow (I : Nat → Nat → Int32) (o : Nat) : Int32 :=
  (I o 14)
set_option maxHeartbeats 4000000 in
set_option maxRecDepth 100000 in
theorem axX1_seedNow {I : Nat → Nat → Int32} {J : Nat → Nat → Int64} {o : Nat} {r : Int32} (ho : dm_b o) (h : DX1_seedNow I o = r) : am_F 0 nX1_seedNow [.ref o] (TX, I, J, RX) (some (.int r)) (TX, I, J, RX) := by
  unfold DX1_seedNow at h
  unfold am_F
  unfold dm_b at ho
  rcases ho with rfl | rfl | rfl
  all_goals
    refine am_E.go (n := 1) rfl ?_
    subst h
    exact am_E.ret rfl ⟨rfl, rfl⟩
def DX1_sow (I : Nat → Nat → Int32) (J : Nat → Nat → Int64) (o : Nat) (a0 : Int32) : Option (Int32 × (Nat → Nat → Int32) × (Nat → Nat → Int64)) :=
  some ((0 : Int32), (am_upI I o 14 a0), J)
set_option maxHeartbeats 4000000 in
set_option maxRecDepth 100000 in
theorem axX1_sow {I : Nat → Nat → Int32} {J : Nat → Nat → Int64} {o : Nat} {a0 : Int32} {r : Int32} {I' : Nat → Nat → Int32} {J' : Nat → Nat → Int64} (ho : dm_b o) (h : DX1_sow I J o a0 = some (r, I', J')) : am_F 0 nX1_sow [.ref o, .int a0] (TX, I, J, RX) (none) (TX, I', J', RX) := by
  unfold DX1_sow at h
  unfold am_F
  unfold dm_b at ho
  rcases ho with rfl | rfl | rfl
  all_goals
    refine am_E.go (n := 2) rfl ?_
    cases h
    exact am_E.ret rfl ⟨rfl, rfl⟩
def DX1_drawBelow (I : Nat → Nat → Int32) (J : Nat → Nat → Int64) (o : Nat) (a0 : Int32) : Option (Int32 × (Nat → Nat → Int32) × (Nat → Nat → Int64)) :=
  if (1 : Int32) ≤ a0 then
    if ¬ a0 = 0 then
      some (((((((am_upI I o 14 (((I o 14) * (1103515245 : Int32)) + (12345 : Int32)))) o 14)).toUInt32 >>> (((16 : Int32)).toUInt32 &&& Int32.toUInt32 31)).toInt32 - (((((am_upI I o 14 (((I o 14) * (1103515245 : Int32)) + (12345 : Int32)))) o 14)).toUInt32 >>> (((16 : Int32)).toUInt32 &&& Int32.toUInt32 31)).toInt32 / a0 * a0), (am_upI I o 14 (((I o 14) * (1103515245 : Int32)) + (12345 : Int32))), J)
    else none
  else
    some ((0 : Int32), (am_upI I o 14 (((I o 14) * (1103515245 : Int32)) + (12345 : Int32))), J)
set_option maxHeartbeats 4000000 in
set_option maxRecDepth 100000 in
theorem axX1_drawBelow {I : Nat → Nat → Int32} {J : Nat → Nat → Int64} {o : Nat} {a0 : Int32} {r : Int32} {I' : Nat → Nat → Int32} {J' : Nat → Nat → Int64} (ho : dm_b o) (h : DX1_drawBelow I J o a0 = some (r, I', J')) : am_F 0 nX1_drawBelow [.ref o, .int a0] (TX, I, J, RX) (some (.int r)) (TX, I', J', RX) := by
  unfold DX1_drawBelow at h
  unfold am_F
  unfold dm_b at ho
  rcases ho with rfl | rfl | rfl
  all_goals
    refine am_E.go (n := 9) rfl ?_
    refine am_E.brk rfl (fun hp => ?_) (fun hp => ?_)
    · have h := (if_pos hp).symm.trans h
      refine am_E.go (n := 4) rfl ?_
      obtain ⟨hg, h⟩ := am_ifI h
      refine am_E.grd rfl hg ?_
      cases h
      exact am_E.ret rfl ⟨rfl, rfl⟩
    · have h := (if_neg hp).symm.trans h
      refine am_E.go (n := 1) rfl ?_
      cases h
      exact am_E.ret rfl ⟨rfl, rfl⟩
def LX1_passDays : Nat → (Nat → Nat → Int32) → (Nat → Nat → Int64) → Nat → Int32 → Int32 → Int32 → Option (Int32 × (Nat → Nat → Int32) × (Nat → Nat → Int64))
  | 0, _, _, _, _, _, _ => none
  | n + 1, I, J, o, x1, x2, x3 =>
    if x1 ≤ x3 then
      some (((I o 13) - x2), I, J)
    else
      (DX1_drawBelow I J o ((3 : Int32))).bind fun q9 =>
      (DX1_turnTo q9.2.1 q9.2.2 o q9.1).bind fun q10 =>
      (DX1_passHours q10.2.1 q10.2.2 o ((24 : Int32))).bind fun q11 =>
      if (30 : Int32) ≤ (q11.2.1 o 11) then
        (DX1_drawBelow q11.2.1 q11.2.2 o ((24 : Int32))).bind fun q12 =>
        (DX1_makeBare q12.2.1 q12.2.2 o q12.1).bind fun q13 =>
        LX1_passDays n q13.2.1 q13.2.2 o x1 x2 ((x3 + (1 : Int32)))
      else
        (DX1_sprayOnce q11.2.1 q11.2.2 o).bind fun q14 =>
        (DX1_drawBelow q14.2.1 q14.2.2 o ((24 : Int32))).bind fun q15 =>
        (DX1_makeBare q15.2.1 q15.2.2 o q15.1).bind fun q16 =>
        LX1_passDays n q16.2.1 q16.2.2 o x1 x2 ((x3 + (1 : Int32)))
def DX1_passDays (I : Nat → Nat → Int32) (J : Nat → Nat → Int64) (o : Nat) (a0 : Int32) : Option (Int32 × (Nat → Nat → Int32) × (Nat → Nat → Int64)) :=
  LX1_passDays am_FU I J o a0 ((I o 13)) ((0 : Int32))
set_option maxHeartbeats 4000000 in
set_option maxRecDepth 100000 in
theorem alX1_passDays : ∀ (n : Nat), ∀ {I : Nat → Nat → Int32} {J : Nat → Nat → Int64} {o : Nat} {x1 : Int32} {x2 : Int32} {x3 : Int32} {I' : Nat → Nat → Int32} {J' : Nat → Nat → Int64} {r : Int32}, dm_b o → LX1_passDays n I J o x1 x2 x3 = some (r, I', J') → am_E 3 nX1_passDays (7, [.ref o, .int x1, .int x2, .int x3], [], (TX, I, J, RX)) (fun v M' => v = some (.int r) ∧ M' = (TX, I', J', RX)) := by
  intro n
  induction n with
  | zero => intros; contradiction
  | succ n ih =>
    intro I J o x1 x2 x3 I' J' r ho h
    simp only [LX1_passDays] at h
    unfold dm_b at ho
    rcases ho with rfl | rfl | rfl
    all_goals
      refine am_E.go (n := 1) rfl ?_
      refine am_E.brk rfl (fun hp => ?_) (fun hp => ?_)
      · have h := (if_pos hp).symm.trans h
        refine am_E.go (n := 3) rfl ?_
        cases h
        exact am_E.ret rfl ⟨rfl, rfl⟩
      · have h := (if_neg hp).symm.trans h
        refine am_E.go (n := 2) rfl ?_
        obtain ⟨q9, hq, h⟩ := am_bindI h
        obtain ⟨q9_1, q9_2, q9_3⟩ := q9
        refine am_E.callF rfl (by decide) (axX1_drawBelow (by decide) hq) ?_
        obtain ⟨q10, hq, h⟩ := am_bindI h
        obtain ⟨q10_1, q10_2, q10_3⟩ := q10
        refine am_E.callF rfl (by decide) (axX1_turnTo (by decide) hq) ?_
        refine am_E.go (n := 1) rfl ?_
        obtain ⟨q11, hq, h⟩ := am_bindI h
        obtain ⟨q11_1, q11_2, q11_3⟩ := q11
        refine am_E.callF rfl (by decide) (axX1_passHours (by decide) hq) ?_
        refine am_E.go (n := 2) rfl ?_
        refine am_E.brk rfl (fun hp => ?_) (fun hp => ?_)
        · have h := (if_pos hp).symm.trans h
          refine am_E.go (n := 2) rfl ?_
          obtain ⟨q12, hq, h⟩ := am_bindI h
          obtain ⟨q12_1, q12_2, q12_3⟩ := q12
          refine am_E.callF rfl (by decide) (axX1_drawBelow (by decide) hq) ?_
          obtain ⟨q13, hq, h⟩ := am_bindI h
          obtain ⟨q13_1, q13_2, q13_3⟩ := q13
          refine am_E.callF rfl (by decide) (axX1_makeBare (by decide) hq) ?_
          refine am_E.go (n := 1) rfl ?_
          exact ih (by decide) h
        · have h := (if_neg hp).symm.trans h
          refine am_E.go (n := 0) rfl ?_
          obtain ⟨q14, hq, h⟩ := am_bindI h
          obtain ⟨q14_1, q14_2, q14_3⟩ := q14
          refine am_E.callF rfl (by decide) (axX1_sprayOnce (by decide) hq) ?_
          refine am_E.go (n := 2) rfl ?_
          obtain ⟨q15, hq, h⟩ := am_bindI h
          obtain ⟨q15_1, q15_2, q15_3⟩ := q15
          refine am_E.callF rfl (by decide) (axX1_drawBelow (by decide) hq) ?_
          obtain ⟨q16, hq, h⟩ := am_bindI h
          obtain ⟨q16_1, q16_2, q16_3⟩ := q16
          refine am_E.callF rfl (by decide) (axX1_makeBare (by decide) hq) ?_
          refine am_E.go (n := 1) rfl ?_
          exact ih (by decide) h
set_option maxHeartbeats 4000000 in
set_option maxRecDepth 100000 in
theorem axX1_passDays {I : Nat → Nat → Int32} {J : Nat → Nat → Int64} {o : Nat} {a0 : Int32} {r : Int32} {I' : Nat → Nat → Int32} {J' : Nat → Nat → Int64} (ho : dm_b o) (h : DX1_passDays I J o a0 = some (r, I', J')) : am_F 3 nX1_passDays [.ref o, .int a0, .retAddr 0, .retAddr 0] (TX, I, J, RX) (some (.int r)) (TX, I', J', RX) := by
  unfold DX1_passDays at h
  unfold am_F
  unfold dm_b at ho
  rcases ho with rfl | rfl | rfl
  all_goals
    refine am_E.go (n := 4) rfl ?_
    exact (alX1_passDays am_FU) (by decide) h
def LX2_isUnder : Nat → (Nat → Nat → Int32) → Int32 → Int32 → Int32 → Option Int32
  | 0, _, _, _, _ => none
  | n + 1, I, x1, x2, x3 =>
    if (7 : Int32) ≤ x3 then
      some ((0 : Int32))
    else
      if x2 = (-1 : Int32) then
        some ((0 : Int32))
      else
        if ¬ x2 = x1 then
          (DX2_above I x2).bind fun q2 =>
          LX2_isUnder n I x1 q2 ((x3 + (1 : Int32)))
        else
          some ((1 : Int32))
def DX2_isUnder (I : Nat → Nat → Int32) (a0 : Int32) (a1 : Int32) : Option Int32 :=
  LX2_isUnder am_FU I a1 a0 ((0 : Int32))
set_option maxHeartbeats 4000000 in
set_option maxRecDepth 100000 in
theorem alX2_isUnder : ∀ (n : Nat), ∀ {I : Nat → Nat → Int32} {J : Nat → Nat → Int64} {x1 : Int32} {x2 : Int32} {x3 : Int32} {r : Int32}, LX2_isUnder n I x1 x2 x3 = some r → am_E 1 nX2_isUnder (4, [.retAddr 0, .int x1, .int x2, .int x3], [], (TX, I, J, RX)) (fun v M' => v = some (.int r) ∧ M' = (TX, I, J, RX)) := by
  intro n
  induction n with
  | zero => intros; contradiction
  | succ n ih =>
    intro I J x1 x2 x3 r h
    simp only [LX2_isUnder] at h
    refine am_E.go (n := 1) rfl ?_
    refine am_E.brk rfl (fun hp => ?_) (fun hp => ?_)
    · have h := (if_pos hp).symm.trans h
      refine am_E.go (n := 0) rfl ?_
      cases h
      first | exact am_E.ret rfl ⟨rfl, rfl⟩ | exact am_E.retG rfl (by decide) ⟨rfl, rfl⟩
    · have h := (if_neg hp).symm.trans h
      refine am_E.go (n := 1) rfl ?_
      refine am_E.brk rfl (fun hp => ?_) (fun hp => ?_)
      · have h := (if_pos hp).symm.trans h
        refine am_E.go (n := 0) rfl ?_
        cases h
        first | exact am_E.ret rfl ⟨rfl, rfl⟩ | exact am_E.retG rfl (by decide) ⟨rfl, rfl⟩
      · have h := (if_neg hp).symm.trans h
        refine am_E.go (n := 1) rfl ?_
        refine am_E.brk rfl (fun hp => ?_) (fun hp => ?_)
        · have h := (if_pos hp).symm.trans h
          refine am_E.go (n := 0) rfl ?_
          obtain ⟨q2, hq, h⟩ := am_bindI h
          refine am_E.callF rfl (by decide) (axX2_above hq) ?_
          refine am_E.go (n := 2) rfl ?_
          exact ih h
        · have h := (if_neg hp).symm.trans h
          refine am_E.go (n := 0) rfl ?_
          cases h
          first | exact am_E.ret rfl ⟨rfl, rfl⟩ | exact am_E.retG rfl (by decide) ⟨rfl, rfl⟩
set_option maxHeartbeats 4000000 in
set_option maxRecDepth 100000 in
theorem axX2_isUnder {I : Nat → Nat → Int32} {J : Nat → Nat → Int64} {a0 : Int32} {a1 : Int32} {r : Int32} (h : DX2_isUnder I a0 a1 = some r) : am_F 1 nX2_isUnder [.int a0, .int a1, .retAddr 0, .retAddr 0] (TX, I, J, RX) (some (.int r)) (TX, I, J, RX) := by
  unfold DX2_isUnder at h
  unfold am_F
  refine am_E.go (n := 3) rfl ?_
  refine am_E.less (ls0 := [.retAddr 0, _, _, _]) ?_ ⟨Or.inr ⟨rfl, rfl⟩, Or.inl rfl, Or.inl rfl, Or.inl rfl, trivial⟩
  exact (alX2_isUnder am_FU) h
def DX2_brown (a0 : Int32) (a1 : Int32) (a2 : Int32) (a3 : Int32) : Int32 :=
  if a0 = 0 then
    ((a1 + a2))
  else if a0 = 1 then
    (((a1 + a2) - (12 : Int32)))
  else if a0 = 2 then
    (((a1 + a2) - ((6 : Int32) * a3)))
  else if a0 = 3 then
    ((0 : Int32))
  else if a0 = 4 then
    (((a1 + a2) + a1))
  else if a0 = 5 then
    (((a1 + a2) + a1))
  else if a0 = 6 then
    (((a1 + a2) - ((6 : Int32) * a3)))
  else (0 : Int32)
set_option maxHeartbeats 4000000 in
set_option maxRecDepth 100000 in
theorem axX2_brown {I : Nat → Nat → Int32} {J : Nat → Nat → Int64} {a0 : Int32} {a1 : Int32} {a2 : Int32} {a3 : Int32} {r : Int32} (h : DX2_brown a0 a1 a2 a3 = r) : am_F 0 nX2_brown [.int a0, .int a1, .int a2, .int a3, .retAddr 0] (TX, I, J, RX) (some (.int r)) (TX, I, J, RX) := by
  unfold DX2_brown at h
  unfold am_F
  refine am_E.go (n := 4) rfl ?_
  refine am_E.sw rfl ?_
  refine ⟨fun hp => ?_, fun hp => ?_⟩
  · have h := (if_pos hp).symm.trans h
    refine am_E.go (n := 0) rfl ?_
    subst h
    exact am_E.ret rfl ⟨rfl, rfl⟩
  have h := (if_neg hp).symm.trans h
  refine ⟨fun hp => ?_, fun hp => ?_⟩
  · have h := (if_pos hp).symm.trans h
    refine am_E.go (n := 2) rfl ?_
    subst h
    exact am_E.ret rfl ⟨rfl, rfl⟩
  have h := (if_neg hp).symm.trans h
  refine ⟨fun hp => ?_, fun hp => ?_⟩
  · have h := (if_pos hp).symm.trans h
    refine am_E.go (n := 4) rfl ?_
    subst h
    exact am_E.ret rfl ⟨rfl, rfl⟩
  have h := (if_neg hp).symm.trans h
  refine ⟨fun hp => ?_, fun hp => ?_⟩
  · have h := (if_pos hp).symm.trans h
    refine am_E.go (n := 0) rfl ?_
    subst h
    exact am_E.ret rfl ⟨rfl, rfl⟩
  have h := (if_neg hp).symm.trans h
  refine ⟨fun hp => ?_, fun hp => ?_⟩
  · have h := (if_pos hp).symm.trans h
    refine am_E.go (n := 2) rfl ?_
    subst h
    exact am_E.ret rfl ⟨rfl, rfl⟩
  have h := (if_neg hp).symm.trans h
  refine ⟨fun hp => ?_, fun hp => ?_⟩
  · have h := (if_pos hp).symm.trans h
    refine am_E.go (n := 2) rfl ?_
    subst h
    exact am_E.ret rfl ⟨rfl, rfl⟩
  have h := (if_neg hp).symm.trans h
  refine ⟨fun hp => ?_, fun hp => ?_⟩
  · have h := (if_pos hp).symm.trans h
    refine am_E.go (n := 4) rfl ?_
    subst h
    exact am_E.ret rfl ⟨rfl, rfl⟩
  have h := (if_neg hp).symm.trans h
  refine am_E.go (n := 0) rfl ?_
  subst h
  exact am_E.ret rfl ⟨rfl, rfl⟩
def DX2_freshness (a0 : Int32) (a1 : Int32) (a2 : Int32) (a3 : Int32) (a4 : Int32) : Option Int32 :=
  if (a1 + (1 : Int32)) < (1 : Int32) then
    some ((0 : Int32))
  else
    if ¬ a0 = (6 : Int32) then
      if ¬ (a1 + (1 : Int32)) = 0 then
        if ¬ a0 = (5 : Int32) then
          some ((if (0 : Int32) < ((9 : Int32) - ((if (0 : Int32) < (DX2_brown a0 a2 a3 a4) then (DX2_brown a0 a2 a3 a4) else (0 : Int32)) / (a1 + (1 : Int32)))) then ((9 : Int32) - ((if (0 : Int32) < (DX2_brown a0 a2 a3 a4) then (DX2_brown a0 a2 a3 a4) else (0 : Int32)) / (a1 + (1 : Int32)))) else (0 : Int32)))
        else
          some ((if (0 : Int32) < (((9 : Int32) - ((if (0 : Int32) < (DX2_brown a0 a2 a3 a4) then (DX2_brown a0 a2 a3 a4) else (0 : Int32)) / (a1 + (1 : Int32)))) - a4) then (((9 : Int32) - ((if (0 : Int32) < (DX2_brown a0 a2 a3 a4) then (DX2_brown a0 a2 a3 a4) else (0 : Int32)) / (a1 + (1 : Int32)))) - a4) else (0 : Int32)))
      else none
    else
      if (a2 + a3) ≤ (48 : Int32) then
        if ¬ (a1 + (1 : Int32)) = 0 then
          if ¬ a0 = (5 : Int32) then
            some ((if (0 : Int32) < ((9 : Int32) - ((if (0 : Int32) < (DX2_brown a0 a2 a3 a4) then (DX2_brown a0 a2 a3 a4) else (0 : Int32)) / (a1 + (1 : Int32)))) then ((9 : Int32) - ((if (0 : Int32) < (DX2_brown a0 a2 a3 a4) then (DX2_brown a0 a2 a3 a4) else (0 : Int32)) / (a1 + (1 : Int32)))) else (0 : Int32)))
          else
            some ((if (0 : Int32) < (((9 : Int32) - ((if (0 : Int32) < (DX2_brown a0 a2 a3 a4) then (DX2_brown a0 a2 a3 a4) else (0 : Int32)) / (a1 + (1 : Int32)))) - a4) then (((9 : Int32) - ((if (0 : Int32) < (DX2_brown a0 a2 a3 a4) then (DX2_brown a0 a2 a3 a4) else (0 : Int32)) / (a1 + (1 : Int32)))) - a4) else (0 : Int32)))
        else none
      else
        some ((0 : Int32))
set_option maxHeartbeats 4000000 in
set_option maxRecDepth 100000 in
theorem axX2_freshness {I : Nat → Nat → Int32} {J : Nat → Nat → Int64} {a0 : Int32} {a1 : Int32} {a2 : Int32} {a3 : Int32} {a4 : Int32} {r : Int32} (h : DX2_freshness a0 a1 a2 a3 a4 = some r) : am_F 1 nX2_freshness [.int a0, .int a1, .int a2, .int a3, .int a4, .retAddr 0, .retAddr 0] (TX, I, J, RX) (some (.int r)) (TX, I, J, RX) := by
  unfold DX2_freshness at h
  unfold am_F
  refine am_E.go (n := 5) rfl ?_
  refine am_E.brk rfl (fun hp => ?_) (fun hp => ?_)
  · have h := (if_pos hp).symm.trans h
    refine am_E.go (n := 0) rfl ?_
    cases h
    exact am_E.ret rfl ⟨rfl, rfl⟩
  · have h := (if_neg hp).symm.trans h
    refine am_E.go (n := 1) rfl ?_
    refine am_E.brk rfl (fun hp => ?_) (fun hp => ?_)
    · have h := (if_pos hp).symm.trans h
      refine am_E.go (n := 5) rfl ?_
      refine am_E.callF rfl (by decide) (axX2_brown rfl) ?_
      refine am_E.step rfl ?_
      refine am_E.go (n := 0) rfl ?_
      obtain ⟨hg, h⟩ := am_ifI h
      refine am_E.grd rfl hg ?_
      refine am_E.go (n := 4) rfl ?_
      refine am_E.brk rfl (fun hp => ?_) (fun hp => ?_)
      · have h := (if_pos hp).symm.trans h
        refine am_E.go (n := 0) rfl ?_
        refine am_E.step rfl ?_
        cases h
        exact am_E.ret rfl ⟨rfl, rfl⟩
      · have h := (if_neg hp).symm.trans h
        refine am_E.go (n := 3) rfl ?_
        refine am_E.step rfl ?_
        cases h
        exact am_E.ret rfl ⟨rfl, rfl⟩
    · have h := (if_neg hp).symm.trans h
      refine am_E.go (n := 3) rfl ?_
      refine am_E.brk rfl (fun hp => ?_) (fun hp => ?_)
      · have h := (if_pos hp).symm.trans h
        refine am_E.go (n := 5) rfl ?_
        refine am_E.callF rfl (by decide) (axX2_brown rfl) ?_
        refine am_E.step rfl ?_
        refine am_E.go (n := 0) rfl ?_
        obtain ⟨hg, h⟩ := am_ifI h
        refine am_E.grd rfl hg ?_
        refine am_E.go (n := 4) rfl ?_
        refine am_E.brk rfl (fun hp => ?_) (fun hp => ?_)
        · have h := (if_pos hp).symm.trans h
          refine am_E.go (n := 0) rfl ?_
          refine am_E.step rfl ?_
          cases h
          exact am_E.ret rfl ⟨rfl, rfl⟩
        · have h := (if_neg hp).symm.trans h
          refine am_E.go (n := 3) rfl ?_
          refine am_E.step rfl ?_
          cases h
          exact am_E.ret rfl ⟨rfl, rfl⟩
      · have h := (if_neg hp).symm.trans h
        refine am_E.go (n := 0) rfl ?_
        cases h
        exact am_E.ret rfl ⟨rfl, rfl⟩
def DX3_holdsRow (I : Nat → Nat → Int32) (o : Nat) : Int32 :=
  if ¬ (I o 1) = (1 : Int32) then
    (0 : Int32)
  else
    (1 : Int32)
set_option maxHeartbeats 4000000 in
set_option maxRecDepth 100000 in
theorem axX3_holdsRow {I : Nat → Nat → Int32} {J : Nat → Nat → Int64} {o : Nat} {r : Int32} (ho : dm_s o) (h : DX3_holdsRow I o = r) : am_F 0 nX3_holdsRow [.ref o] (TX, I, J, RX) (some (.int r)) (TX, I, J, RX) := by
  unfold DX3_holdsRow at h
  unfold am_F
  unfold dm_s at ho
  rcases ho with rfl | rfl | rfl | rfl | rfl | rfl | rfl | rfl
  all_goals
    refine am_E.go (n := 2) rfl ?_
    refine am_E.brk rfl (fun hp => ?_) (fun hp => ?_)
    · have h := (if_pos hp).symm.trans h
      refine am_E.go (n := 0) rfl ?_
      subst h
      first | exact am_E.ret rfl ⟨rfl, rfl⟩ | exact am_E.retG rfl (by decide) ⟨rfl, rfl⟩
    · have h := (if_neg hp).symm.trans h
      refine am_E.go (n := 1) rfl ?_
      subst h
      first | exact am_E.ret rfl ⟨rfl, rfl⟩ | exact am_E.retG rfl (by decide) ⟨rfl, rfl⟩
def DX3_holdsStuff (I : Nat → Nat → Int32) (o : Nat) : Int32 :=
  if ¬ (I o 1) = (2 : Int32) then
    (0 : Int32)
  else
    (1 : Int32)
set_option maxHeartbeats 4000000 in
set_option maxRecDepth 100000 in
theorem axX3_holdsStuff {I : Nat → Nat → Int32} {J : Nat → Nat → Int64} {o : Nat} {r : Int32} (ho : dm_s o) (h : DX3_holdsStuff I o = r) : am_F 0 nX3_holdsStuff [.ref o] (TX, I, J, RX) (some (.int r)) (TX, I, J, RX) := by
  unfold DX3_holdsStuff at h
  unfold am_F
  unfold dm_s at ho
  rcases ho with rfl | rfl | rfl | rfl | rfl | rfl | rfl | rfl
  all_goals
    refine am_E.go (n := 2) rfl ?_
    refine am_E.brk rfl (fun hp => ?_) (fun hp => ?_)
    · have h := (if_pos hp).symm.trans h
      refine am_E.go (n := 0) rfl ?_
      subst h
      first | exact am_E.ret rfl ⟨rfl, rfl⟩ | exact am_E.retG rfl (by decide) ⟨rfl, rfl⟩
    · have h := (if_neg hp).symm.trans h
      refine am_E.go (n := 1) rfl ?_
      subst h
      first | exact am_E.ret rfl ⟨rfl, rfl⟩ | exact am_E.retG rfl (by decide) ⟨rfl, rfl⟩
def DX3_stuffHeld (I : Nat → Nat → Int32) (o : Nat) : Int32 :=
  if (DX3_holdsStuff I o) = 0 then
    (-1 : Int32)
  else
    (I o 4)
set_option maxHeartbeats 4000000 in
set_option maxRecDepth 100000 in
theorem axX3_stuffHeld {I : Nat → Nat → Int32} {J : Nat → Nat → Int64} {o : Nat} {r : Int32} (ho : dm_s o) (h : DX3_stuffHeld I o = r) : am_F 1 nX3_stuffHeld [.ref o] (TX, I, J, RX) (some (.int r)) (TX, I, J, RX) := by
  unfold DX3_stuffHeld at h
  unfold am_F
  unfold dm_s at ho
  rcases ho with rfl | rfl | rfl | rfl | rfl | rfl | rfl | rfl
  all_goals
    refine am_E.go (n := 0) rfl ?_
    refine am_E.callF rfl (by decide) (axX3_holdsStuff (by decide) rfl) ?_
    refine am_E.brk rfl (fun hp => ?_) (fun hp => ?_)
    · have h := (if_pos hp).symm.trans h
      refine am_E.go (n := 0) rfl ?_
      subst h
      exact am_E.ret rfl ⟨rfl, rfl⟩
    · have h := (if_neg hp).symm.trans h
      refine am_E.go (n := 2) rfl ?_
      subst h
      exact am_E.ret rfl ⟨rfl, rfl⟩
def DX3_rowSize (I : Nat → Nat → Int32) (o : Nat) : Int32 :=
  (I o 3)
set_option maxHeartbeats 4000000 in
set_option maxRecDepth 100000 in
theorem axX3_rowSize {I : Nat → Nat → Int32} {J : Nat → Nat → Int64} {o : Nat} {r : Int32} (ho : dm_s o) (h : DX3_rowSize I o = r) : am_F 0 nX3_rowSize [.ref o] (TX, I, J, RX) (some (.int r)) (TX, I, J, RX) := by
  unfold DX3_rowSize at h
  unfold am_F
  unfold dm_s at ho
  rcases ho with rfl | rfl | rfl | rfl | rfl | rfl | rfl | rfl
  all_goals
    refine am_E.go (n := 1) rfl ?_
    subst h
    exact am_E.ret rfl ⟨rfl, rfl⟩
def DX3_told (I : Nat → Nat → Int32) (o : Nat) : Int32 :=
  if (DX3_holdsRow I o) = 0 then
    (DX3_stuffHeld I o)
  else
    ((100 : Int32) + (I o 2))
set_option maxHeartbeats 4000000 in
set_option maxRecDepth 100000 in
theorem axX3_told {I : Nat → Nat → Int32} {J : Nat → Nat → Int64} {o : Nat} {r : Int32} (ho : dm_s o) (h : DX3_told I o = r) : am_F 2 nX3_told [.ref o] (TX, I, J, RX) (some (.int r)) (TX, I, J, RX) := by
  unfold DX3_told at h
  unfold am_F
  unfold dm_s at ho
  rcases ho with rfl | rfl | rfl | rfl | rfl | rfl | rfl | rfl
  all_goals
    refine am_E.go (n := 0) rfl ?_
    refine am_E.callF rfl (by decide) (axX3_holdsRow (by decide) rfl) ?_
    refine am_E.brk rfl (fun hp => ?_) (fun hp => ?_)
    · have h := (if_pos hp).symm.trans h
      refine am_E.go (n := 0) rfl ?_
      refine am_E.callF rfl (by decide) (axX3_stuffHeld (by decide) rfl) ?_
      subst h
      exact am_E.ret rfl ⟨rfl, rfl⟩
    · have h := (if_neg hp).symm.trans h
      refine am_E.go (n := 4) rfl ?_
      subst h
      exact am_E.ret rfl ⟨rfl, rfl⟩
def DX3_rowTrouble (I : Nat → Nat → Int32) (o : Nat) : Int32 :=
  if (DX3_holdsStuff I o) = 0 then
    if (DX3_holdsRow I o) = 0 then
      (-3 : Int32)
    else
      (0 : Int32)
  else
    (-2 : Int32)
set_option maxHeartbeats 4000000 in
set_option maxRecDepth 100000 in
theorem axX3_rowTrouble {I : Nat → Nat → Int32} {J : Nat → Nat → Int64} {o : Nat} {r : Int32} (ho : dm_s o) (h : DX3_rowTrouble I o = r) : am_F 1 nX3_rowTrouble [.ref o] (TX, I, J, RX) (some (.int r)) (TX, I, J, RX) := by
  unfold DX3_rowTrouble at h
  unfold am_F
  unfold dm_s at ho
  rcases ho with rfl | rfl | rfl | rfl | rfl | rfl | rfl | rfl
  all_goals
    refine am_E.go (n := 0) rfl ?_
    refine am_E.callF rfl (by decide) (axX3_holdsStuff (by decide) rfl) ?_
    refine am_E.brk rfl (fun hp => ?_) (fun hp => ?_)
    · have h := (if_pos hp).symm.trans h
      refine am_E.go (n := 0) rfl ?_
      refine am_E.callF rfl (by decide) (axX3_holdsRow (by decide) rfl) ?_
      refine am_E.brk rfl (fun hp => ?_) (fun hp => ?_)
      · have h := (if_pos hp).symm.trans h
        refine am_E.go (n := 0) rfl ?_
        subst h
        exact am_E.ret rfl ⟨rfl, rfl⟩
      · have h := (if_neg hp).symm.trans h
        refine am_E.go (n := 1) rfl ?_
        subst h
        exact am_E.ret rfl ⟨rfl, rfl⟩
    · have h := (if_neg hp).symm.trans h
      refine am_E.go (n := 0) rfl ?_
      subst h
      exact am_E.ret rfl ⟨rfl, rfl⟩
def DX3_isOfOtherSort (I : Nat → Nat → Int32) (o : Nat) (g0 : Nat) : Int32 :=
  if (DX3_holdsRow I o) = 0 then
    (0 : Int32)
  else
    if (DX3_holdsRow I g0) = 0 then
      (0 : Int32)
    else
      if (I o 2) = (I g0 2) then
        (0 : Int32)
      else
        (1 : Int32)
set_option maxHeartbeats 4000000 in
set_option maxRecDepth 100000 in
theorem axX3_isOfOtherSort {I : Nat → Nat → Int32} {J : Nat → Nat → Int64} {o : Nat} {g0 : Nat} {r : Int32} (ho : dm_s o) (hg0 : dm_s g0) (h : DX3_isOfOtherSort I o g0 = r) : am_F 1 nX3_isOfOtherSort [.ref o, .ref g0] (TX, I, J, RX) (some (.int r)) (TX, I, J, RX) := by
  unfold DX3_isOfOtherSort at h
  unfold am_F
  unfold dm_s at ho
  unfold dm_s at hg0
  rcases ho with rfl | rfl | rfl | rfl | rfl | rfl | rfl | rfl <;> rcases hg0 with rfl | rfl | rfl | rfl | rfl | rfl | rfl | rfl
  all_goals
    refine am_E.go (n := 0) rfl ?_
    refine am_E.callF rfl (by decide) (axX3_holdsRow (by decide) rfl) ?_
    refine am_E.brk rfl (fun hp => ?_) (fun hp => ?_)
    · have h := (if_pos hp).symm.trans h
      refine am_E.go (n := 0) rfl ?_
      subst h
      first | exact am_E.ret rfl ⟨rfl, rfl⟩ | exact am_E.retG rfl (by decide) ⟨rfl, rfl⟩
    · have h := (if_neg hp).symm.trans h
      refine am_E.go (n := 0) rfl ?_
      refine am_E.callF rfl (by decide) (axX3_holdsRow (by decide) rfl) ?_
      refine am_E.brk rfl (fun hp => ?_) (fun hp => ?_)
      · have h := (if_pos hp).symm.trans h
        refine am_E.go (n := 0) rfl ?_
        subst h
        first | exact am_E.ret rfl ⟨rfl, rfl⟩ | exact am_E.retG rfl (by decide) ⟨rfl, rfl⟩
      · have h := (if_neg hp).symm.trans h
        refine am_E.go (n := 3) rfl ?_
        refine am_E.brk rfl (fun hp => ?_) (fun hp => ?_)
        · have h := (if_pos hp).symm.trans h
          refine am_E.go (n := 0) rfl ?_
          subst h
          first | exact am_E.ret rfl ⟨rfl, rfl⟩ | exact am_E.retG rfl (by decide) ⟨rfl, rfl⟩
        · have h := (if_neg hp).symm.trans h
          refine am_E.go (n := 1) rfl ?_
          subst h
          first | exact am_E.ret rfl ⟨rfl, rfl⟩ | exact am_E.retG rfl (by decide) ⟨rfl, rfl⟩
def DX3_takeNothing (I : Nat → Nat → Int32) (J : Nat → Nat → Int64) (o : Nat) : Option (Int32 × (Nat → Nat → Int32) × (Nat → Nat → Int64)) :=
  some ((0 : Int32), (am_upI ((am_upI I o 1 (0 : Int32))) o 3 (0 : Int32)), J)
set_option maxHeartbeats 4000000 in
set_option maxRecDepth 100000 in
theorem axX3_takeNothing {I : Nat → Nat → Int32} {J : Nat → Nat → Int64} {o : Nat} {r : Int32} {I' : Nat → Nat → Int32} {J' : Nat → Nat → Int64} (ho : dm_s o) (h : DX3_takeNothing I J o = some (r, I', J')) : am_F 0 nX3_takeNothing [.ref o] (TX, I, J, RX) (none) (TX, I', J', RX) := by
  unfold DX3_takeNothing at h
  unfold am_F
  unfold dm_s at ho
  rcases ho with rfl | rfl | rfl | rfl | rfl | rfl | rfl | rfl
  all_goals
    refine am_E.go (n := 5) rfl ?_
    cases h
    exact am_E.ret rfl ⟨rfl, rfl⟩
def DX3_takeStuff (I : Nat → Nat → Int32) (J : Nat → Nat → Int64) (o : Nat) (a0 : Int32) : Option (Int32 × (Nat → Nat → Int32) × (Nat → Nat → Int64)) :=
  some ((0 : Int32), (am_upI ((am_upI ((am_upI I o 1 (2 : Int32))) o 3 (0 : Int32))) o 4 a0), J)
set_option maxHeartbeats 4000000 in
set_option maxRecDepth 100000 in
theorem axX3_takeStuff {I : Nat → Nat → Int32} {J : Nat → Nat → Int64} {o : Nat} {a0 : Int32} {r : Int32} {I' : Nat → Nat → Int32} {J' : Nat → Nat → Int64} (ho : dm_s o) (h : DX3_takeStuff I J o a0 = some (r, I', J')) : am_F 0 nX3_takeStuff [.ref o, .int a0] (TX, I, J, RX) (none) (TX, I', J', RX) := by
  unfold DX3_takeStuff at h
  unfold am_F
  unfold dm_s at ho
  rcases ho with rfl | rfl | rfl | rfl | rfl | rfl | rfl | rfl
  all_goals
    refine am_E.go (n := 8) rfl ?_
    cases h
    exact am_E.ret rfl ⟨rfl, rfl⟩
def LJ7_fill_d0a16 : Nat → (Nat → Nat → Int32) → (Nat → Nat → Int64) → Nat → Int64 → Int32 → Int32 → Option (Int32 × (Nat → Nat → Int32) × (Nat → Nat → Int64))
  | 0, _, _, _, _, _, _ => none
  | n + 1, I, J, g0, x1, x3, x4 =>
    if x4 ≤ x3 then
      some ((0 : Int32), I, J)
    else
      if ¬ (x3 < 0 ∨ 160 ≤ (x3).toNatClampNeg) then
        LJ7_fill_d0a16 n I ((am_upJ J g0 (x3).toNatClampNeg x1)) g0 x1 ((x3 + (1 : Int32))) x4
      else none
def DJ7_fill_d0a16 (I : Nat → Nat → Int32) (J : Nat → Nat → Int64) (g0 : Nat) (a1 : Int64) : Option (Int32 × (Nat → Nat → Int32) × (Nat → Nat → Int64)) :=
  LJ7_fill_d0a16 am_FU I J g0 a1 ((0 : Int32)) ((160 : Int32))
set_option maxHeartbeats 4000000 in
set_option maxRecDepth 100000 in
theorem alJ7_fill_d0a16 : ∀ (n : Nat), ∀ {I : Nat → Nat → Int32} {J : Nat → Nat → Int64} {g0 : Nat} {x1 : Int64} {x3 : Int32} {x4 : Int32} {I' : Nat → Nat → Int32} {J' : Nat → Nat → Int64} {r : Int32}, dm_el g0 → LJ7_fill_d0a16 n I J g0 x1 x3 x4 = some (r, I', J') → am_E 0 nJ7_fill_d0a16 (6, [.ref g0, .long x1, .retAddr 0, .int x3, .int x4], [], (TX, I, J, RX)) (fun v M' => v = none ∧ M' = (TX, I', J', RX)) := by
  intro n
  induction n with
  | zero => intros; contradiction
  | succ n ih =>
    intro I J g0 x1 x3 x4 I' J' r hg0 h
    simp only [LJ7_fill_d0a16] at h
    unfold dm_el at hg0
    rcases hg0 with rfl | rfl | rfl | rfl | rfl | rfl | rfl | rfl
    all_goals
      refine am_E.go (n := 1) rfl ?_
      refine am_E.brk rfl (fun hp => ?_) (fun hp => ?_)
      · have h := (if_pos hp).symm.trans h
        cases h
        exact am_E.ret rfl ⟨rfl, rfl⟩
      · have h := (if_neg hp).symm.trans h
        refine am_E.go (n := 2) rfl ?_
        obtain ⟨hg, h⟩ := am_ifI h
        refine am_E.grd rfl hg ?_
        refine am_E.go (n := 1) rfl ?_
        exact ih (by decide) h
set_option maxHeartbeats 4000000 in
set_option maxRecDepth 100000 in
theorem axJ7_fill_d0a16 {I : Nat → Nat → Int32} {J : Nat → Nat → Int64} {g0 : Nat} {a1 : Int64} {r : Int32} {I' : Nat → Nat → Int32} {J' : Nat → Nat → Int64} (hg0 : dm_el g0) (h : DJ7_fill_d0a16 I J g0 a1 = some (r, I', J')) : am_F 0 nJ7_fill_d0a16 [.ref g0, .long a1, .retAddr 0, .retAddr 0, .retAddr 0] (TX, I, J, RX) (none) (TX, I', J', RX) := by
  unfold DJ7_fill_d0a16 at h
  unfold am_F
  unfold dm_el at hg0
  rcases hg0 with rfl | rfl | rfl | rfl | rfl | rfl | rfl | rfl
  all_goals
    refine am_E.go (n := 4) rfl ?_
    exact (alJ7_fill_d0a16 am_FU) (by decide) h
def DX3_takeRow (I : Nat → Nat → Int32) (J : Nat → Nat → Int64) (o : Nat) (a0 : Int32) (a1 : Int32) : Option (Int32 × (Nat → Nat → Int32) × (Nat → Nat → Int64)) :=
  (some (am_upI ((am_upI ((am_upI I o 1 (1 : Int32))) o 2 a0)) o 3 (if (0 : Int32) < (if (160 : Int32) < a1 then (160 : Int32) else a1) then (if (160 : Int32) < a1 then (160 : Int32) else a1) else (0 : Int32)))).bind fun I1 =>
  (DJ7_fill_d0a16 I1 J ((o + 1)) ((0 : Int64))).bind fun q2 =>
  some ((0 : Int32), q2.2.1, q2.2.2)
set_option maxHeartbeats 4000000 in
set_option maxRecDepth 100000 in
theorem axX3_takeRow {I : Nat → Nat → Int32} {J : Nat → Nat → Int64} {o : Nat} {a0 : Int32} {a1 : Int32} {r : Int32} {I' : Nat → Nat → Int32} {J' : Nat → Nat → Int64} (ho : dm_s o) (h : DX3_takeRow I J o a0 a1 = some (r, I', J')) : am_F 1 nX3_takeRow [.ref o, .int a0, .int a1] (TX, I, J, RX) (none) (TX, I', J', RX) := by
  unfold DX3_takeRow at h
  unfold am_F
  unfold dm_s at ho
  rcases ho with rfl | rfl | rfl | rfl | rfl | rfl | rfl | rfl
  all_goals
    refine am_E.go (n := 9) rfl ?_
    refine am_E.step rfl ?_
    refine am_E.step rfl ?_
    refine am_E.go (n := 3) rfl ?_
    obtain ⟨I1, hI, h⟩ := am_bindI h
    obtain rfl := Option.some.inj hI
    obtain ⟨q2, hq, h⟩ := am_bindI h
    obtain ⟨q2_1, q2_2, q2_3⟩ := q2
    refine am_E.callF rfl (by decide) (axJ7_fill_d0a16 (by decide) hq) ?_
    cases h
    exact am_E.ret rfl ⟨rfl, rfl⟩
def DX3_hasElement (I : Nat → Nat → Int32) (o : Nat) (a0 : Int32) : Int32 :=
  if a0 < 0 then
    (0 : Int32)
  else
    if (I o 3) ≤ a0 then
      (0 : Int32)
    else
      if (160 : Int32) ≤ a0 then
        (0 : Int32)
      else
        (1 : Int32)
set_option maxHeartbeats 4000000 in
set_option maxRecDepth 100000 in
theorem axX3_hasElement {I : Nat → Nat → Int32} {J : Nat → Nat → Int64} {o : Nat} {a0 : Int32} {r : Int32} (ho : dm_s o) (h : DX3_hasElement I o a0 = r) : am_F 0 nX3_hasElement [.ref o, .int a0] (TX, I, J, RX) (some (.int r)) (TX, I, J, RX) := by
  unfold DX3_hasElement at h
  unfold am_F
  unfold dm_s at ho
  rcases ho with rfl | rfl | rfl | rfl | rfl | rfl | rfl | rfl
  all_goals
    refine am_E.go (n := 0) rfl ?_
    refine am_E.brk rfl (fun hp => ?_) (fun hp => ?_)
    · have h := (if_pos hp).symm.trans h
      refine am_E.go (n := 0) rfl ?_
      subst h
      first | exact am_E.ret rfl ⟨rfl, rfl⟩ | exact am_E.retG rfl (by decide) ⟨rfl, rfl⟩
    · have h := (if_neg hp).symm.trans h
      refine am_E.go (n := 2) rfl ?_
      refine am_E.brk rfl (fun hp => ?_) (fun hp => ?_)
      · have h := (if_pos hp).symm.trans h
        refine am_E.go (n := 0) rfl ?_
        subst h
        first | exact am_E.ret rfl ⟨rfl, rfl⟩ | exact am_E.retG rfl (by decide) ⟨rfl, rfl⟩
      · have h := (if_neg hp).symm.trans h
        refine am_E.go (n := 3) rfl ?_
        refine am_E.brk rfl (fun hp => ?_) (fun hp => ?_)
        · have h := (if_pos hp).symm.trans h
          refine am_E.go (n := 0) rfl ?_
          subst h
          first | exact am_E.ret rfl ⟨rfl, rfl⟩ | exact am_E.retG rfl (by decide) ⟨rfl, rfl⟩
        · have h := (if_neg hp).symm.trans h
          refine am_E.go (n := 1) rfl ?_
          subst h
          first | exact am_E.ret rfl ⟨rfl, rfl⟩ | exact am_E.retG rfl (by decide) ⟨rfl, rfl⟩
def DX3_hasElements (I : Nat → Nat → Int32) (o : Nat) (a0 : Int32) (a1 : Int32) : Int32 :=
  if a0 < 0 then
    (0 : Int32)
  else
    if a1 < 0 then
      (0 : Int32)
    else
      if (I o 3) < a1 then
        (0 : Int32)
      else
        if ((I o 3) - a1) < a0 then
          (0 : Int32)
        else
          (1 : Int32)
set_option maxHeartbeats 4000000 in
set_option maxRecDepth 100000 in
theorem axX3_hasElements {I : Nat → Nat → Int32} {J : Nat → Nat → Int64} {o : Nat} {a0 : Int32} {a1 : Int32} {r : Int32} (ho : dm_s o) (h : DX3_hasElements I o a0 a1 = r) : am_F 0 nX3_hasElements [.ref o, .int a0, .int a1] (TX, I, J, RX) (some (.int r)) (TX, I, J, RX) := by
  unfold DX3_hasElements at h
  unfold am_F
  unfold dm_s at ho
  rcases ho with rfl | rfl | rfl | rfl | rfl | rfl | rfl | rfl
  all_goals
    refine am_E.go (n := 0) rfl ?_
    refine am_E.brk rfl (fun hp => ?_) (fun hp => ?_)
    · have h := (if_pos hp).symm.trans h
      refine am_E.go (n := 0) rfl ?_
      subst h
      first | exact am_E.ret rfl ⟨rfl, rfl⟩ | exact am_E.retG rfl (by decide) ⟨rfl, rfl⟩
    · have h := (if_neg hp).symm.trans h
      refine am_E.go (n := 0) rfl ?_
      refine am_E.brk rfl (fun hp => ?_) (fun hp => ?_)
      · have h := (if_pos hp).symm.trans h
        refine am_E.go (n := 0) rfl ?_
        subst h
        first | exact am_E.ret rfl ⟨rfl, rfl⟩ | exact am_E.retG rfl (by decide) ⟨rfl, rfl⟩
      · have h := (if_neg hp).symm.trans h
        refine am_E.go (n := 2) rfl ?_
        refine am_E.brk rfl (fun hp => ?_) (fun hp => ?_)
        · have h := (if_pos hp).symm.trans h
          refine am_E.go (n := 0) rfl ?_
          subst h
          first | exact am_E.ret rfl ⟨rfl, rfl⟩ | exact am_E.retG rfl (by decide) ⟨rfl, rfl⟩
        · have h := (if_neg hp).symm.trans h
          refine am_E.go (n := 4) rfl ?_
          refine am_E.brk rfl (fun hp => ?_) (fun hp => ?_)
          · have h := (if_pos hp).symm.trans h
            refine am_E.go (n := 0) rfl ?_
            subst h
            first | exact am_E.ret rfl ⟨rfl, rfl⟩ | exact am_E.retG rfl (by decide) ⟨rfl, rfl⟩
          · have h := (if_neg hp).symm.trans h
            refine am_E.go (n := 1) rfl ?_
            subst h
            first | exact am_E.ret rfl ⟨rfl, rfl⟩ | exact am_E.retG rfl (by decide) ⟨rfl, rfl⟩
def DX3_cut (I : Nat → Nat → Int32) (o : Nat) (a0 : Int64) : Int64 :=
  if (I o 2) = 0 then
    ((((a0).toInt32).toInt8.toInt32).toInt64)
  else if (I o 2) = 1 then
    ((((a0).toInt32).toInt16.toInt32).toInt64)
  else if (I o 2) = 2 then
    (((a0).toInt32).toInt64)
  else a0
set_option maxHeartbeats 4000000 in
set_option maxRecDepth 100000 in
theorem axX3_cut {I : Nat → Nat → Int32} {J : Nat → Nat → Int64} {o : Nat} {a0 : Int64} {r : Int64} (ho : dm_s o) (h : DX3_cut I o a0 = r) : am_F 0 nX3_cut [.ref o, .long a0, .retAddr 0] (TX, I, J, RX) (some (.long r)) (TX, I, J, RX) := by
  unfold DX3_cut at h
  unfold am_F
  unfold dm_s at ho
  rcases ho with rfl | rfl | rfl | rfl | rfl | rfl | rfl | rfl
  all_goals
    refine am_E.go (n := 1) rfl ?_
    refine am_E.sw rfl ?_
    refine ⟨fun hp => ?_, fun hp => ?_⟩
    · have h := (if_pos hp).symm.trans h
      refine am_E.go (n := 3) rfl ?_
      subst h
      exact am_E.ret rfl ⟨rfl, rfl⟩
    have h := (if_neg hp).symm.trans h
    refine ⟨fun hp => ?_, fun hp => ?_⟩
    · have h := (if_pos hp).symm.trans h
      refine am_E.go (n := 3) rfl ?_
      subst h
      exact am_E.ret rfl ⟨rfl, rfl⟩
    have h := (if_neg hp).symm.trans h
    refine ⟨fun hp => ?_, fun hp => ?_⟩
    · have h := (if_pos hp).symm.trans h
      refine am_E.go (n := 2) rfl ?_
      subst h
      exact am_E.ret rfl ⟨rfl, rfl⟩
    have h := (if_neg hp).symm.trans h
    refine am_E.go (n := 0) rfl ?_
    subst h
    exact am_E.ret rfl ⟨rfl, rfl⟩
def DX3_put (I : Nat → Nat → Int32) (J : Nat → Nat → Int64) (o : Nat) (a0 : Int32) (a1 : Int64) : Option (Int32 × (Nat → Nat → Int32) × (Nat → Nat → Int64)) :=
  if (DX3_hasElement I o a0) = 0 then
    some ((0 : Int32), I, J)
  else
    if ¬ (a0 < 0 ∨ 160 ≤ (a0).toNatClampNeg) then
      some ((0 : Int32), I, (am_upJ J (o + 1) (a0).toNatClampNeg (DX3_cut I o a1)))
    else none
set_option maxHeartbeats 4000000 in
set_option maxRecDepth 100000 in
theorem axX3_put {I : Nat → Nat → Int32} {J : Nat → Nat → Int64} {o : Nat} {a0 : Int32} {a1 : Int64} {r : Int32} {I' : Nat → Nat → Int32} {J' : Nat → Nat → Int64} (ho : dm_s o) (h : DX3_put I J o a0 a1 = some (r, I', J')) : am_F 1 nX3_put [.ref o, .int a0, .long a1, .retAddr 0] (TX, I, J, RX) (none) (TX, I', J', RX) := by
  unfold DX3_put at h
  unfold am_F
  unfold dm_s at ho
  rcases ho with rfl | rfl | rfl | rfl | rfl | rfl | rfl | rfl
  all_goals
    refine am_E.go (n := 1) rfl ?_
    refine am_E.callF rfl (by decide) (axX3_hasElement (by decide) rfl) ?_
    refine am_E.brk rfl (fun hp => ?_) (fun hp => ?_)
    · have h := (if_pos hp).symm.trans h
      cases h
      exact am_E.ret rfl ⟨rfl, rfl⟩
    · have h := (if_neg hp).symm.trans h
      refine am_E.go (n := 4) rfl ?_
      refine am_E.callF rfl (by decide) (axX3_cut (by decide) rfl) ?_
      obtain ⟨hg, h⟩ := am_ifI h
      refine am_E.grd rfl hg ?_
      cases h
      exact am_E.ret rfl ⟨rfl, rfl⟩
def DX3_elementAt (I : Nat → Nat → Int32) (J : Nat → Nat → Int64) (o : Nat) (a0 : Int32) : Option Int64 :=
  if (DX3_hasElement I o a0) = 0 then
    some ((0 : Int64))
  else
    if ¬ (a0 < 0 ∨ 160 ≤ (a0).toNatClampNeg) then
      some ((J (o + 1) (a0).toNatClampNeg))
    else none
set_option maxHeartbeats 4000000 in
set_option maxRecDepth 100000 in
theorem axX3_elementAt {I : Nat → Nat → Int32} {J : Nat → Nat → Int64} {o : Nat} {a0 : Int32} {r : Int64} (ho : dm_s o) (h : DX3_elementAt I J o a0 = some r) : am_F 1 nX3_elementAt [.ref o, .int a0] (TX, I, J, RX) (some (.long r)) (TX, I, J, RX) := by
  unfold DX3_elementAt at h
  unfold am_F
  unfold dm_s at ho
  rcases ho with rfl | rfl | rfl | rfl | rfl | rfl | rfl | rfl
  all_goals
    refine am_E.go (n := 1) rfl ?_
    refine am_E.callF rfl (by decide) (axX3_hasElement (by decide) rfl) ?_
    refine am_E.brk rfl (fun hp => ?_) (fun hp => ?_)
    · have h := (if_pos hp).symm.trans h
      refine am_E.go (n := 0) rfl ?_
      cases h
      exact am_E.ret rfl ⟨rfl, rfl⟩
    · have h := (if_neg hp).symm.trans h
      refine am_E.go (n := 2) rfl ?_
      obtain ⟨hg, h⟩ := am_ifI h
      refine am_E.grd rfl hg ?_
      refine am_E.go (n := 0) rfl ?_
      cases h
      exact am_E.ret rfl ⟨rfl, rfl⟩
def DX3_toldAt (I : Nat → Nat → Int32) (J : Nat → Nat → Int64) (o : Nat) (a0 : Int32) : Option Int32 :=
  (DX3_elementAt I J o a0).bind fun q1 =>
  some ((q1).toInt32)
set_option maxHeartbeats 4000000 in
set_option maxRecDepth 100000 in
theorem axX3_toldAt {I : Nat → Nat → Int32} {J : Nat → Nat → Int64} {o : Nat} {a0 : Int32} {r : Int32} (ho : dm_s o) (h : DX3_toldAt I J o a0 = some r) : am_F 2 nX3_toldAt [.ref o, .int a0] (TX, I, J, RX) (some (.int r)) (TX, I, J, RX) := by
  unfold DX3_toldAt at h
  unfold am_F
  unfold dm_s at ho
  rcases ho with rfl | rfl | rfl | rfl | rfl | rfl | rfl | rfl
  all_goals
    refine am_E.go (n := 1) rfl ?_
    obtain ⟨q1, hq, h⟩ := am_bindI h
    refine am_E.callF rfl (by decide) (axX3_elementAt (by decide) hq) ?_
    refine am_E.go (n := 0) rfl ?_
    cases h
    exact am_E.ret rfl ⟨rfl, rfl⟩
def DX3_copyTo (I : Nat → Nat → Int32) (J : Nat → Nat → Int64) (o : Nat) (g0 : Nat) (a1 : Int32) (a2 : Int32) (a3 : Int32) : Option (Int32 × (Nat → Nat → Int32) × (Nat → Nat → Int64)) :=
  if (DX3_hasElements I o a1 a3) = 0 then
    some ((0 : Int32), I, J)
  else
    if (DX3_hasElements I g0 a2 a3) = 0 then
      some ((0 : Int32), I, J)
    else
      if (¬ a1 < 0 ∧ ¬ a2 < 0 ∧ ¬ a3 < 0) ∧ (a1).toNatClampNeg + (a3).toNatClampNeg ≤ 160 ∧ (a2).toNatClampNeg + (a3).toNatClampNeg ≤ 160 then
        some ((0 : Int32), I, (am_cpJ J (o + 1) (g0 + 1) (a1).toNatClampNeg (a2).toNatClampNeg (a3).toNatClampNeg))
      else none
set_option maxHeartbeats 4000000 in
set_option maxRecDepth 100000 in
theorem axX3_copyTo {I : Nat → Nat → Int32} {J : Nat → Nat → Int64} {o : Nat} {g0 : Nat} {a1 : Int32} {a2 : Int32} {a3 : Int32} {r : Int32} {I' : Nat → Nat → Int32} {J' : Nat → Nat → Int64} (ho : dm_s o) (hg0 : dm_s g0) (h : DX3_copyTo I J o g0 a1 a2 a3 = some (r, I', J')) : am_F 1 nX3_copyTo [.ref o, .ref g0, .int a1, .int a2, .int a3] (TX, I, J, RX) (none) (TX, I', J', RX) := by
  unfold DX3_copyTo at h
  unfold am_F
  unfold dm_s at ho
  unfold dm_s at hg0
  rcases ho with rfl | rfl | rfl | rfl | rfl | rfl | rfl | rfl <;> rcases hg0 with rfl | rfl | rfl | rfl | rfl | rfl | rfl | rfl
  all_goals
    refine am_E.go (n := 2) rfl ?_
    refine am_E.callF rfl (by decide) (axX3_hasElements (by decide) rfl) ?_
    refine am_E.brk rfl (fun hp => ?_) (fun hp => ?_)
    · have h := (if_pos hp).symm.trans h
      cases h
      exact am_E.ret rfl ⟨rfl, rfl⟩
    · have h := (if_neg hp).symm.trans h
      refine am_E.go (n := 2) rfl ?_
      refine am_E.callF rfl (by decide) (axX3_hasElements (by decide) rfl) ?_
      refine am_E.brk rfl (fun hp => ?_) (fun hp => ?_)
      · have h := (if_pos hp).symm.trans h
        cases h
        exact am_E.ret rfl ⟨rfl, rfl⟩
      · have h := (if_neg hp).symm.trans h
        refine am_E.go (n := 6) rfl ?_
        obtain ⟨hg, h⟩ := am_ifI h
        refine am_E.grd rfl hg ?_
        cases h
        exact am_E.ret rfl ⟨rfl, rfl⟩
