/-! THE METHODS AS FUNCTIONS over the memory, and the row that their runs do so: laid by program (wip/whole/decomp.py) -/
def LX4_firstBadLaying : Nat → (Nat → Nat → Int32) → (Nat → Nat → Int64) → Nat → Nat → Int32 → Int32 → Option (Int32 × (Nat → Nat → Int32) × (Nat → Nat → Int64))
  | 0, _, _, _, _, _, _ => none
  | n + 1, I, J, g0, g1, x2, x3 =>
    if x2 ≤ x3 then
      some ((-1 : Int32), I, J)
    else
      (DX3_toldAt I J g1 x3).bind fun q4 =>
      if 0 ≤ q4 then
        if ¬ (10 : Int32) = 0 then
          if ¬ (10 : Int32) = 0 then
            (DX1_mayBeLaid I g0 ((q4 / (10 : Int32)))).bind fun q5 =>
            if q5 = 0 then
              some (x3, I, J)
            else
              if ¬ (DX1_isStuff I g0 ((q4 - q4 / (10 : Int32) * (10 : Int32)))) = 0 then
                (DX1_layOn I J g0 ((q4 / (10 : Int32))) ((q4 - q4 / (10 : Int32) * (10 : Int32)))).bind fun q6 =>
                LX4_firstBadLaying n q6.2.1 q6.2.2 g0 g1 x2 ((x3 + (1 : Int32)))
              else
                some (x3, I, J)
          else none
        else none
      else
        some (x3, I, J)
def DX4_firstBadLaying (I : Nat → Nat → Int32) (J : Nat → Nat → Int64) (g0 : Nat) (g1 : Nat) (a2 : Int32) : Option (Int32 × (Nat → Nat → Int32) × (Nat → Nat → Int64)) :=
  LX4_firstBadLaying am_FU I J g0 g1 a2 ((0 : Int32))
set_option maxHeartbeats 4000000 in
set_option maxRecDepth 100000 in
theorem alX4_firstBadLaying : ∀ (n : Nat), ∀ {I : Nat → Nat → Int32} {J : Nat → Nat → Int64} {g0 : Nat} {g1 : Nat} {x2 : Int32} {x3 : Int32} {I' : Nat → Nat → Int32} {J' : Nat → Nat → Int64} {r : Int32}, dm_b g0 → dm_s g1 → LX4_firstBadLaying n I J g0 g1 x2 x3 = some (r, I', J') → am_E 3 nX4_firstBadLaying (2, [.ref g0, .ref g1, .int x2, .int x3, .retAddr 0, .retAddr 0, .retAddr 0], [], (TX, I, J, RX)) (fun v M' => v = some (.int r) ∧ M' = (TX, I', J', RX)) := by
  intro n
  induction n with
  | zero => intros; contradiction
  | succ n ih =>
    intro I J g0 g1 x2 x3 I' J' r hg0 hg1 h
    simp only [LX4_firstBadLaying] at h
    unfold dm_b at hg0
    unfold dm_s at hg1
    rcases hg0 with rfl | rfl | rfl <;> rcases hg1 with rfl | rfl | rfl | rfl | rfl | rfl | rfl | rfl
    all_goals
      refine am_E.go (n := 1) rfl ?_
      refine am_E.brk rfl (fun hp => ?_) (fun hp => ?_)
      · have h := (if_pos hp).symm.trans h
        refine am_E.go (n := 0) rfl ?_
        cases h
        exact am_E.ret rfl ⟨rfl, rfl⟩
      · have h := (if_neg hp).symm.trans h
        refine am_E.go (n := 1) rfl ?_
        obtain ⟨q4, hq, h⟩ := am_bindI h
        refine am_E.callF rfl (by decide) (axX3_toldAt (by decide) hq) ?_
        refine am_E.go (n := 1) rfl ?_
        refine am_E.brk rfl (fun hp => ?_) (fun hp => ?_)
        · have h := (if_pos hp).symm.trans h
          refine am_E.go (n := 1) rfl ?_
          obtain ⟨hg, h⟩ := am_ifI h
          refine am_E.grd rfl hg ?_
          refine am_E.go (n := 2) rfl ?_
          obtain ⟨hg, h⟩ := am_ifI h
          refine am_E.grd rfl hg ?_
          refine am_E.go (n := 2) rfl ?_
          obtain ⟨q5, hq, h⟩ := am_bindI h
          refine am_E.callF rfl (by decide) (axX1_mayBeLaid (by decide) hq) ?_
          refine am_E.brk rfl (fun hp => ?_) (fun hp => ?_)
          · have h := (if_pos hp).symm.trans h
            refine am_E.go (n := 0) rfl ?_
            cases h
            exact am_E.ret rfl ⟨rfl, rfl⟩
          · have h := (if_neg hp).symm.trans h
            refine am_E.go (n := 1) rfl ?_
            refine am_E.callF rfl (by decide) (axX1_isStuff (by decide) rfl) ?_
            refine am_E.brk rfl (fun hp => ?_) (fun hp => ?_)
            · have h := (if_pos hp).symm.trans h
              refine am_E.go (n := 2) rfl ?_
              obtain ⟨q6, hq, h⟩ := am_bindI h
              obtain ⟨q6_1, q6_2, q6_3⟩ := q6
              refine am_E.callF rfl (by decide) (axX1_layOn (by decide) hq) ?_
              refine am_E.go (n := 1) rfl ?_
              refine am_E.less (ls0 := [_, _, _, _, .retAddr 0, .retAddr 0, .retAddr 0]) ?_ ⟨Or.inl rfl, Or.inl rfl, Or.inl rfl, Or.inl rfl, Or.inr ⟨rfl, rfl⟩, Or.inr ⟨rfl, rfl⟩, Or.inr ⟨rfl, rfl⟩, trivial⟩
              exact ih (by decide) (by decide) h
            · have h := (if_neg hp).symm.trans h
              refine am_E.go (n := 0) rfl ?_
              cases h
              exact am_E.ret rfl ⟨rfl, rfl⟩
        · have h := (if_neg hp).symm.trans h
          refine am_E.go (n := 0) rfl ?_
          cases h
          exact am_E.ret rfl ⟨rfl, rfl⟩
set_option maxHeartbeats 4000000 in
set_option maxRecDepth 100000 in
theorem axX4_firstBadLaying {I : Nat → Nat → Int32} {J : Nat → Nat → Int64} {g0 : Nat} {g1 : Nat} {a2 : Int32} {r : Int32} {I' : Nat → Nat → Int32} {J' : Nat → Nat → Int64} (hg0 : dm_b g0) (hg1 : dm_s g1) (h : DX4_firstBadLaying I J g0 g1 a2 = some (r, I', J')) : am_F 3 nX4_firstBadLaying [.ref g0, .ref g1, .int a2, .retAddr 0, .retAddr 0, .retAddr 0, .retAddr 0] (TX, I, J, RX) (some (.int r)) (TX, I', J', RX) := by
  unfold DX4_firstBadLaying at h
  unfold am_F
  unfold dm_b at hg0
  unfold dm_s at hg1
  rcases hg0 with rfl | rfl | rfl <;> rcases hg1 with rfl | rfl | rfl | rfl | rfl | rfl | rfl | rfl
  all_goals
    refine am_E.go (n := 1) rfl ?_
    exact (alX4_firstBadLaying am_FU) (by decide) (by decide) h
def DX5_faultFound (I : Nat → Nat → Int32) : Int32 :=
  (I 32 3)
set_option maxHeartbeats 4000000 in
set_option maxRecDepth 100000 in
theorem axX5_faultFound {I : Nat → Nat → Int32} {J : Nat → Nat → Int64} {r : Int32} (h : DX5_faultFound I = r) : am_F 0 nX5_faultFound [.ref 32] (TX, I, J, RX) (some (.int r)) (TX, I, J, RX) := by
  unfold DX5_faultFound at h
  unfold am_F
  refine am_E.go (n := 1) rfl ?_
  subst h
  exact am_E.ret rfl ⟨rfl, rfl⟩
def LX5_takeLetters : Nat → (Nat → Nat → Int32) → (Nat → Nat → Int64) → Nat → Int32 → Option (Int32 × (Nat → Nat → Int32) × (Nat → Nat → Int64))
  | 0, _, _, _, _ => none
  | n + 1, I, J, g0, x2 =>
    if (I 32 1) ≤ x2 then
      some ((0 : Int32), I, J)
    else
      (DX3_toldAt I J g0 x2).bind fun q3 =>
      if ¬ (x2 < 0 ∨ 160 ≤ (x2).toNatClampNeg) then
        LX5_takeLetters n ((am_upI I 33 (x2).toNatClampNeg q3)) J g0 ((x2 + (1 : Int32)))
      else none
def DX5_takeLetters (I : Nat → Nat → Int32) (J : Nat → Nat → Int64) (g0 : Nat) : Option (Int32 × (Nat → Nat → Int32) × (Nat → Nat → Int64)) :=
  (some (am_upI ((am_upI ((am_upI I 32 2 (0 : Int32))) 32 3 (-1 : Int32))) 32 1 (if (160 : Int32) < (DX3_rowSize (am_upI ((am_upI I 32 2 (0 : Int32))) 32 3 (-1 : Int32)) g0) then (160 : Int32) else (DX3_rowSize (am_upI ((am_upI I 32 2 (0 : Int32))) 32 3 (-1 : Int32)) g0)))).bind fun I1 =>
  LX5_takeLetters am_FU I1 J g0 ((0 : Int32))
set_option maxHeartbeats 4000000 in
set_option maxRecDepth 100000 in
theorem alX5_takeLetters : ∀ (n : Nat), ∀ {I : Nat → Nat → Int32} {J : Nat → Nat → Int64} {g0 : Nat} {x2 : Int32} {I' : Nat → Nat → Int32} {J' : Nat → Nat → Int64} {r : Int32}, dm_s g0 → LX5_takeLetters n I J g0 x2 = some (r, I', J') → am_E 3 nX5_takeLetters (28, [.ref 32, .ref g0, .int x2], [], (TX, I, J, RX)) (fun v M' => v = none ∧ M' = (TX, I', J', RX)) := by
  intro n
  induction n with
  | zero => intros; contradiction
  | succ n ih =>
    intro I J g0 x2 I' J' r hg0 h
    simp only [LX5_takeLetters] at h
    unfold dm_s at hg0
    rcases hg0 with rfl | rfl | rfl | rfl | rfl | rfl | rfl | rfl
    all_goals
      refine am_E.go (n := 2) rfl ?_
      refine am_E.brk rfl (fun hp => ?_) (fun hp => ?_)
      · have h := (if_pos hp).symm.trans h
        cases h
        exact am_E.ret rfl ⟨rfl, rfl⟩
      · have h := (if_neg hp).symm.trans h
        refine am_E.go (n := 4) rfl ?_
        obtain ⟨q3, hq, h⟩ := am_bindI h
        refine am_E.callF rfl (by decide) (axX3_toldAt (by decide) hq) ?_
        obtain ⟨hg, h⟩ := am_ifI h
        refine am_E.grd rfl hg ?_
        refine am_E.go (n := 1) rfl ?_
        exact ih (by decide) h
set_option maxHeartbeats 4000000 in
set_option maxRecDepth 100000 in
theorem axX5_takeLetters {I : Nat → Nat → Int32} {J : Nat → Nat → Int64} {g0 : Nat} {r : Int32} {I' : Nat → Nat → Int32} {J' : Nat → Nat → Int64} (hg0 : dm_s g0) (h : DX5_takeLetters I J g0 = some (r, I', J')) : am_F 3 nX5_takeLetters [.ref 32, .ref g0, .retAddr 0] (TX, I, J, RX) (none) (TX, I', J', RX) := by
  unfold DX5_takeLetters at h
  unfold am_F
  unfold dm_s at hg0
  rcases hg0 with rfl | rfl | rfl | rfl | rfl | rfl | rfl | rfl
  all_goals
    refine am_E.go (n := 7) rfl ?_
    refine am_E.callF rfl (by decide) (axX3_rowSize (by decide) rfl) ?_
    refine am_E.go (n := 2) rfl ?_
    refine am_E.step rfl ?_
    refine am_E.go (n := 2) rfl ?_
    obtain ⟨I1, hI, h⟩ := am_bindI h
    obtain rfl := Option.some.inj hI
    exact (alX5_takeLetters am_FU) (by decide) h
def DX5_wordOf (a0 : Int32) : Nat :=
  if a0 = 0 then
    (1000)
  else if a0 = 1 then
    (1001)
  else if a0 = 2 then
    (1002)
  else if a0 = 3 then
    (1003)
  else if a0 = 4 then
    (1004)
  else if a0 = 5 then
    (1005)
  else 1006
set_option maxHeartbeats 4000000 in
set_option maxRecDepth 100000 in
theorem axX5_wordOf {I : Nat → Nat → Int32} {J : Nat → Nat → Int64} {a0 : Int32} {r : Nat} (h : DX5_wordOf a0 = r) : am_F 0 nX5_wordOf [.int a0] (TX, I, J, RX) (some (.ref r)) (TX, I, J, RX) := by
  unfold DX5_wordOf at h
  unfold am_F
  refine am_E.go (n := 0) rfl ?_
  refine am_E.sw rfl ?_
  refine ⟨fun hp => ?_, fun hp => ?_⟩
  · have h := (if_pos hp).symm.trans h
    refine am_E.go (n := 0) rfl ?_
    subst h
    exact am_E.ret rfl ⟨rfl, rfl⟩
  have h := (if_neg hp).symm.trans h
  refine ⟨fun hp => ?_, fun hp => ?_⟩
  · have h := (if_pos hp).symm.trans h
    refine am_E.go (n := 0) rfl ?_
    subst h
    exact am_E.ret rfl ⟨rfl, rfl⟩
  have h := (if_neg hp).symm.trans h
  refine ⟨fun hp => ?_, fun hp => ?_⟩
  · have h := (if_pos hp).symm.trans h
    refine am_E.go (n := 0) rfl ?_
    subst h
    exact am_E.ret rfl ⟨rfl, rfl⟩
  have h := (if_neg hp).symm.trans h
  refine ⟨fun hp => ?_, fun hp => ?_⟩
  · have h := (if_pos hp).symm.trans h
    refine am_E.go (n := 0) rfl ?_
    subst h
    exact am_E.ret rfl ⟨rfl, rfl⟩
  have h := (if_neg hp).symm.trans h
  refine ⟨fun hp => ?_, fun hp => ?_⟩
  · have h := (if_pos hp).symm.trans h
    refine am_E.go (n := 0) rfl ?_
    subst h
    exact am_E.ret rfl ⟨rfl, rfl⟩
  have h := (if_neg hp).symm.trans h
  refine ⟨fun hp => ?_, fun hp => ?_⟩
  · have h := (if_pos hp).symm.trans h
    refine am_E.go (n := 0) rfl ?_
    subst h
    exact am_E.ret rfl ⟨rfl, rfl⟩
  have h := (if_neg hp).symm.trans h
  refine am_E.go (n := 0) rfl ?_
  subst h
  exact am_E.ret rfl ⟨rfl, rfl⟩
theorem axwordOf (a0 : Int32) : dm_w (DX5_wordOf a0) := by
  unfold DX5_wordOf
  repeat' split
  all_goals decide
theorem am_wTag {h : Nat} (hs : dm_w h) : 1000 ≤ h ∧ h ≤ 1006 := by
  rcases hs with rfl | rfl | rfl | rfl | rfl | rfl | rfl <;> decide
def DJ0_coder_7d493 (o : Nat) : Int32 :=
  (0 : Int32)
set_option maxHeartbeats 4000000 in
set_option maxRecDepth 100000 in
theorem axJ0_coder_7d493 {I : Nat → Nat → Int32} {J : Nat → Nat → Int64} {o : Nat} {r : Int32} (ho : dm_w o) (h : DJ0_coder_7d493 o = r) : am_F 0 nJ0_coder_7d493 [.ref o] (TX, I, J, RX) (some (.int r)) (TX, I, J, RX) := by
  unfold DJ0_coder_7d493 at h
  unfold am_F
  unfold dm_w at ho
  rcases ho with rfl | rfl | rfl | rfl | rfl | rfl | rfl
  all_goals
    refine am_E.go (n := 0) rfl ?_
    refine am_E.step rfl ?_
    refine am_E.go (n := 2) rfl ?_
    subst h
    first | exact am_E.ret rfl ⟨rfl, rfl⟩ | exact am_E.retG rfl rfl ⟨rfl, rfl⟩
def DJ0_length_8abf5 (o : Nat) : Int32 :=
  ((Int32.ofNat (am_len (am_nthL am_words ((o + 100) - 1100)))) >>> ((0 : Int32) &&& 31))
set_option maxHeartbeats 4000000 in
set_option maxRecDepth 100000 in
theorem axJ0_length_8abf5 {I : Nat → Nat → Int32} {J : Nat → Nat → Int64} {o : Nat} {r : Int32} (ho : dm_w o) (h : DJ0_length_8abf5 o = r) : am_F 1 nJ0_length_8abf5 [.ref o] (TX, I, J, RX) (some (.int r)) (TX, I, J, RX) := by
  unfold DJ0_length_8abf5 at h
  unfold am_F
  unfold dm_w at ho
  rcases ho with rfl | rfl | rfl | rfl | rfl | rfl | rfl
  all_goals
    refine am_E.go (n := 3) rfl ?_
    refine am_E.callF rfl (by decide) (axJ0_coder_7d493 (r := (0 : Int32)) (by decide) rfl) ?_
    refine am_E.go (n := 0) rfl ?_
    subst h
    exact am_E.ret rfl ⟨rfl, rfl⟩
def DX5_letterAt (I : Nat → Nat → Int32) (a0 : Int32) : Option Int32 :=
  if a0 < 0 then
    some ((-1 : Int32))
  else
    if (I 32 1) ≤ a0 then
      some ((-1 : Int32))
    else
      if (160 : Int32) ≤ a0 then
        some ((-1 : Int32))
      else
        if ¬ (a0 < 0 ∨ 160 ≤ (a0).toNatClampNeg) then
          some ((I 33 (a0).toNatClampNeg))
        else none
set_option maxHeartbeats 4000000 in
set_option maxRecDepth 100000 in
theorem axX5_letterAt {I : Nat → Nat → Int32} {J : Nat → Nat → Int64} {a0 : Int32} {r : Int32} (h : DX5_letterAt I a0 = some r) : am_F 0 nX5_letterAt [.ref 32, .int a0] (TX, I, J, RX) (some (.int r)) (TX, I, J, RX) := by
  unfold DX5_letterAt at h
  unfold am_F
  refine am_E.go (n := 0) rfl ?_
  refine am_E.brk rfl (fun hp => ?_) (fun hp => ?_)
  · have h := (if_pos hp).symm.trans h
    refine am_E.go (n := 0) rfl ?_
    cases h
    exact am_E.ret rfl ⟨rfl, rfl⟩
  · have h := (if_neg hp).symm.trans h
    refine am_E.go (n := 2) rfl ?_
    refine am_E.brk rfl (fun hp => ?_) (fun hp => ?_)
    · have h := (if_pos hp).symm.trans h
      refine am_E.go (n := 0) rfl ?_
      cases h
      exact am_E.ret rfl ⟨rfl, rfl⟩
    · have h := (if_neg hp).symm.trans h
      refine am_E.go (n := 3) rfl ?_
      refine am_E.brk rfl (fun hp => ?_) (fun hp => ?_)
      · have h := (if_pos hp).symm.trans h
        refine am_E.go (n := 0) rfl ?_
        cases h
        exact am_E.ret rfl ⟨rfl, rfl⟩
      · have h := (if_neg hp).symm.trans h
        refine am_E.go (n := 2) rfl ?_
        obtain ⟨hg, h⟩ := am_ifI h
        refine am_E.grd rfl hg ?_
        refine am_E.go (n := 0) rfl ?_
        cases h
        exact am_E.ret rfl ⟨rfl, rfl⟩
def DJ0_isLatin1_aae02 (o : Nat) : Int32 :=
  (1 : Int32)
set_option maxHeartbeats 4000000 in
set_option maxRecDepth 100000 in
theorem axJ0_isLatin1_aae02 {I : Nat → Nat → Int32} {J : Nat → Nat → Int64} {o : Nat} {r : Int32} (ho : dm_w o) (h : DJ0_isLatin1_aae02 o = r) : am_F 0 nJ0_isLatin1_aae02 [.ref o] (TX, I, J, RX) (some (.int r)) (TX, I, J, RX) := by
  unfold DJ0_isLatin1_aae02 at h
  unfold am_F
  unfold dm_w at ho
  rcases ho with rfl | rfl | rfl | rfl | rfl | rfl | rfl
  all_goals
    refine am_E.go (n := 0) rfl ?_
    refine am_E.step rfl ?_
    refine am_E.go (n := 1) rfl ?_
    refine am_E.step rfl ?_
    refine am_E.go (n := 1) rfl ?_
    subst h
    first | exact am_E.ret rfl ⟨rfl, rfl⟩ | exact am_E.retG rfl (by decide) ⟨rfl, rfl⟩
def DJ3_checkIndex_8e157 (a0 : Int32) (a1 : Int32) : Option Int32 :=
  if a0 < 0 then
    none
  else
    if a0 < a1 then
      some a0
    else
      none
set_option maxHeartbeats 4000000 in
set_option maxRecDepth 100000 in
theorem axJ3_checkIndex_8e157 {I : Nat → Nat → Int32} {J : Nat → Nat → Int64} {a0 : Int32} {a1 : Int32} {r : Int32} (h : DJ3_checkIndex_8e157 a0 a1 = some r) : am_F 0 nJ3_checkIndex_8e157 [.int a0, .int a1, .ref 2002] (TX, I, J, RX) (some (.int r)) (TX, I, J, RX) := by
  unfold DJ3_checkIndex_8e157 at h
  unfold am_F
  refine am_E.go (n := 0) rfl ?_
  refine am_E.brk rfl (fun hp => ?_) (fun hp => ?_)
  · have h := (if_pos hp).symm.trans h
    refine am_E.go (n := 2) rfl ?_
    cases h
  · have h := (if_neg hp).symm.trans h
    refine am_E.go (n := 1) rfl ?_
    refine am_E.brk rfl (fun hp => ?_) (fun hp => ?_)
    · have h := (if_pos hp).symm.trans h
      refine am_E.go (n := 0) rfl ?_
      cases h
      exact am_E.ret rfl ⟨rfl, rfl⟩
    · have h := (if_neg hp).symm.trans h
      refine am_E.go (n := 2) rfl ?_
      cases h
def DJ0_checkIndex_df160 (a0 : Int32) (a1 : Int32) : Option Int32 :=
  (DJ3_checkIndex_8e157 a0 a1).bind fun q1 =>
  some ((0 : Int32))
set_option maxHeartbeats 4000000 in
set_option maxRecDepth 100000 in
theorem axJ0_checkIndex_df160 {I : Nat → Nat → Int32} {J : Nat → Nat → Int64} {a0 : Int32} {a1 : Int32} {r : Int32} (h : DJ0_checkIndex_df160 a0 a1 = some r) : am_F 1 nJ0_checkIndex_df160 [.int a0, .int a1] (TX, I, J, RX) (none) (TX, I, J, RX) := by
  unfold DJ0_checkIndex_df160 at h
  unfold am_F
  refine am_E.go (n := 2) rfl ?_
  obtain ⟨q1, hq, h⟩ := am_bindI h
  refine am_E.callF rfl (by decide) (axJ3_checkIndex_8e157 hq) ?_
  refine am_E.go (n := 0) rfl ?_
  cases h
  exact am_E.ret rfl ⟨rfl, rfl⟩
def DJ1_charAt_3b067 (g0 : Nat) (a1 : Int32) : Option Int32 :=
  (DJ0_checkIndex_df160 a1 ((Int32.ofNat (am_len (am_nthL am_words (g0 - 1100)))))).bind fun q1 =>
  if ¬ (a1 < 0 ∨ am_len (am_nthL am_words (g0 - 1100)) ≤ (a1).toNatClampNeg) then
    some (((((am_nthI (am_nthL am_words (g0 - 1100)) (a1).toNatClampNeg) &&& (255 : Int32))).toUInt32 % 65536).toInt32)
  else none
set_option maxHeartbeats 4000000 in
set_option maxRecDepth 100000 in
theorem axJ1_charAt_3b067 {I : Nat → Nat → Int32} {J : Nat → Nat → Int64} {g0 : Nat} {a1 : Int32} {r : Int32} (hg0 : dm_wb g0) (h : DJ1_charAt_3b067 g0 a1 = some r) : am_F 2 nJ1_charAt_3b067 [.ref g0, .int a1] (TX, I, J, RX) (some (.int r)) (TX, I, J, RX) := by
  unfold DJ1_charAt_3b067 at h
  unfold am_F
  unfold dm_wb at hg0
  rcases hg0 with rfl | rfl | rfl | rfl | rfl | rfl | rfl
  all_goals
    refine am_E.go (n := 2) rfl ?_
    obtain ⟨q1, hq, h⟩ := am_bindI h
    refine am_E.callF rfl (by decide) (axJ0_checkIndex_df160 hq) ?_
    refine am_E.go (n := 1) rfl ?_
    obtain ⟨hg, h⟩ := am_ifI h
    refine am_E.grd rfl hg ?_
    refine am_E.go (n := 2) rfl ?_
    cases h
    exact am_E.retG rfl (am_chr _) ⟨rfl, rfl⟩
def DJ0_charAt_5068e (o : Nat) (a0 : Int32) : Option Int32 :=
  (DJ1_charAt_3b067 ((o + 100)) a0).bind fun q1 =>
  if (q1.toUInt32 % 65536).toInt32 = q1 then some q1 else none
set_option maxHeartbeats 4000000 in
set_option maxRecDepth 100000 in
theorem axJ0_charAt_5068e {I : Nat → Nat → Int32} {J : Nat → Nat → Int64} {o : Nat} {a0 : Int32} {r : Int32} (ho : dm_w o) (h : DJ0_charAt_5068e o a0 = some r) : am_F 3 nJ0_charAt_5068e [.ref o, .int a0] (TX, I, J, RX) (some (.int r)) (TX, I, J, RX) := by
  unfold DJ0_charAt_5068e at h
  unfold am_F
  unfold dm_w at ho
  rcases ho with rfl | rfl | rfl | rfl | rfl | rfl | rfl
  all_goals
    refine am_E.go (n := 0) rfl ?_
    refine am_E.callF rfl (by decide) (axJ0_isLatin1_aae02 (r := (1 : Int32)) (by decide) rfl) ?_
    refine am_E.step rfl ?_
    refine am_E.go (n := 2) rfl ?_
    obtain ⟨q1, hq, h⟩ := am_bindI h
    refine am_E.callF rfl (by decide) (axJ1_charAt_3b067 (by decide) hq) ?_
    obtain ⟨hg, h⟩ := am_ifI h
    cases h
    exact am_E.retG rfl hg ⟨rfl, rfl⟩
def LX5_lettersAlike : Nat → (Nat → Nat → Int32) → Nat → Int32 → Option Int32
  | 0, _, _, _ => none
  | n + 1, I, g0, x2 =>
    if (DJ0_length_8abf5 g0) ≤ x2 then
      some x2
    else
      (DX5_letterAt I (((I 32 2) + x2))).bind fun q3 =>
      (DJ0_charAt_5068e g0 x2).bind fun q4 =>
      if ¬ q3 = q4 then
        some x2
      else
        LX5_lettersAlike n I g0 ((x2 + (1 : Int32)))
def DX5_lettersAlike (I : Nat → Nat → Int32) (g0 : Nat) : Option Int32 :=
  LX5_lettersAlike am_FU I g0 ((0 : Int32))
set_option maxHeartbeats 4000000 in
set_option maxRecDepth 100000 in
theorem alX5_lettersAlike : ∀ (n : Nat), ∀ {I : Nat → Nat → Int32} {J : Nat → Nat → Int64} {g0 : Nat} {x2 : Int32} {r : Int32}, dm_w g0 → LX5_lettersAlike n I g0 x2 = some r → am_E 4 nX5_lettersAlike (2, [.ref 32, .ref g0, .int x2], [], (TX, I, J, RX)) (fun v M' => v = some (.int r) ∧ M' = (TX, I, J, RX)) := by
  intro n
  induction n with
  | zero => intros; contradiction
  | succ n ih =>
    intro I J g0 x2 r hg0 h
    simp only [LX5_lettersAlike] at h
    unfold dm_w at hg0
    rcases hg0 with rfl | rfl | rfl | rfl | rfl | rfl | rfl
    all_goals
      refine am_E.go (n := 1) rfl ?_
      refine am_E.callF rfl (by decide) (axJ0_length_8abf5 (by decide) rfl) ?_
      refine am_E.brk rfl (fun hp => ?_) (fun hp => ?_)
      · have h := (if_pos hp).symm.trans h
        refine am_E.go (n := 0) rfl ?_
        cases h
        exact am_E.ret rfl ⟨rfl, rfl⟩
      · have h := (if_neg hp).symm.trans h
        refine am_E.go (n := 4) rfl ?_
        obtain ⟨q3, hq, h⟩ := am_bindI h
        refine am_E.callF rfl (by decide) (axX5_letterAt hq) ?_
        refine am_E.go (n := 1) rfl ?_
        obtain ⟨q4, hq, h⟩ := am_bindI h
        refine am_E.callF rfl (by decide) (axJ0_charAt_5068e (by decide) hq) ?_
        refine am_E.brk rfl (fun hp => ?_) (fun hp => ?_)
        · have h := (if_pos hp).symm.trans h
          refine am_E.go (n := 0) rfl ?_
          cases h
          exact am_E.ret rfl ⟨rfl, rfl⟩
        · have h := (if_neg hp).symm.trans h
          refine am_E.go (n := 1) rfl ?_
          exact ih (by decide) h
set_option maxHeartbeats 4000000 in
set_option maxRecDepth 100000 in
theorem axX5_lettersAlike {I : Nat → Nat → Int32} {J : Nat → Nat → Int64} {g0 : Nat} {r : Int32} (hg0 : dm_w g0) (h : DX5_lettersAlike I g0 = some r) : am_F 4 nX5_lettersAlike [.ref 32, .ref g0, .retAddr 0] (TX, I, J, RX) (some (.int r)) (TX, I, J, RX) := by
  unfold DX5_lettersAlike at h
  unfold am_F
  unfold dm_w at hg0
  rcases hg0 with rfl | rfl | rfl | rfl | rfl | rfl | rfl
  all_goals
    refine am_E.go (n := 1) rfl ?_
    exact (alX5_lettersAlike am_FU) (by decide) h
def DX5_fail (I : Nat → Nat → Int32) (J : Nat → Nat → Int64) (a0 : Int32) : Option (Int32 × (Nat → Nat → Int32) × (Nat → Nat → Int64)) :=
  if ¬ (I 32 3) = (-1 : Int32) then
    some ((0 : Int32), I, J)
  else
    some ((0 : Int32), (am_upI I 32 3 a0), J)
set_option maxHeartbeats 4000000 in
set_option maxRecDepth 100000 in
theorem axX5_fail {I : Nat → Nat → Int32} {J : Nat → Nat → Int64} {a0 : Int32} {r : Int32} {I' : Nat → Nat → Int32} {J' : Nat → Nat → Int64} (h : DX5_fail I J a0 = some (r, I', J')) : am_F 0 nX5_fail [.ref 32, .int a0] (TX, I, J, RX) (none) (TX, I', J', RX) := by
  unfold DX5_fail at h
  unfold am_F
  refine am_E.go (n := 2) rfl ?_
  refine am_E.brk rfl (fun hp => ?_) (fun hp => ?_)
  · have h := (if_pos hp).symm.trans h
    cases h
    exact am_E.ret rfl ⟨rfl, rfl⟩
  · have h := (if_neg hp).symm.trans h
    refine am_E.go (n := 2) rfl ?_
    cases h
    exact am_E.ret rfl ⟨rfl, rfl⟩
def LX5_readWord : Nat → (Nat → Nat → Int32) → (Nat → Nat → Int64) → Int32 → Int32 → Option (Int32 × (Nat → Nat → Int32) × (Nat → Nat → Int64))
  | 0, _, _, _, _ => none
  | n + 1, I, J, x1, x2 =>
    if (7 : Int32) ≤ x2 then
      (DX5_fail I J (((I 32 2) + x1))).bind fun q3 =>
      some ((-1 : Int32), q3.2.1, q3.2.2)
    else
      (DX5_lettersAlike I ((DX5_wordOf x2))).bind fun q4 =>
      if ¬ q4 = (DJ0_length_8abf5 ((DX5_wordOf x2))) then
        LX5_readWord n I J ((if x1 < q4 then q4 else x1)) ((x2 + (1 : Int32)))
      else
        some (x2, (am_upI I 32 2 ((I 32 2) + q4)), J)
def DX5_readWord (I : Nat → Nat → Int32) (J : Nat → Nat → Int64) : Option (Int32 × (Nat → Nat → Int32) × (Nat → Nat → Int64)) :=
  LX5_readWord am_FU I J ((0 : Int32)) ((0 : Int32))
set_option maxHeartbeats 4000000 in
set_option maxRecDepth 100000 in
theorem alX5_readWord : ∀ (n : Nat), ∀ {I : Nat → Nat → Int32} {J : Nat → Nat → Int64} {x1 : Int32} {x2 : Int32} {I' : Nat → Nat → Int32} {J' : Nat → Nat → Int64} {r : Int32}, LX5_readWord n I J x1 x2 = some (r, I', J') → am_E 5 nX5_readWord (4, [.ref 32, .int x1, .int x2, .retAddr 0, .retAddr 0], [], (TX, I, J, RX)) (fun v M' => v = some (.int r) ∧ M' = (TX, I', J', RX)) := by
  intro n
  induction n with
  | zero => intros; contradiction
  | succ n ih =>
    intro I J x1 x2 I' J' r h
    simp only [LX5_readWord] at h
    refine am_E.go (n := 1) rfl ?_
    refine am_E.brk rfl (fun hp => ?_) (fun hp => ?_)
    · have h := (if_pos hp).symm.trans h
      refine am_E.go (n := 4) rfl ?_
      obtain ⟨q3, hq, h⟩ := am_bindI h
      obtain ⟨q3_1, q3_2, q3_3⟩ := q3
      refine am_E.callF rfl (by decide) (axX5_fail hq) ?_
      refine am_E.go (n := 0) rfl ?_
      cases h
      exact am_E.ret rfl ⟨rfl, rfl⟩
    · have h := (if_neg hp).symm.trans h
      refine am_E.go (n := 0) rfl ?_
      refine am_E.callF rfl (by decide) (axX5_wordOf rfl) ?_
      refine am_E.go (n := 2) rfl ?_
      obtain ⟨q4, hq, h⟩ := am_bindI h
      refine am_E.callF rfl (by decide) (axX5_lettersAlike (axwordOf _) hq) ?_
      refine am_E.go (n := 2) rfl ?_
      refine am_E.callGF rfl (am_wTag (axwordOf _)) (by decide) (axJ0_length_8abf5 (axwordOf _) rfl) ?_
      refine am_E.brk rfl (fun hp => ?_) (fun hp => ?_)
      · have h := (if_pos hp).symm.trans h
        refine am_E.go (n := 1) rfl ?_
        refine am_E.step rfl ?_
        refine am_E.go (n := 2) rfl ?_
        refine am_E.less (ls0 := [_, _, _, .retAddr 0, .retAddr 0]) ?_ ⟨Or.inl rfl, Or.inl rfl, Or.inl rfl, Or.inr ⟨rfl, rfl⟩, Or.inr ⟨rfl, rfl⟩, trivial⟩
        exact ih h
      · have h := (if_neg hp).symm.trans h
        refine am_E.go (n := 6) rfl ?_
        cases h
        exact am_E.ret rfl ⟨rfl, rfl⟩
set_option maxHeartbeats 4000000 in
set_option maxRecDepth 100000 in
theorem axX5_readWord {I : Nat → Nat → Int32} {J : Nat → Nat → Int64} {r : Int32} {I' : Nat → Nat → Int32} {J' : Nat → Nat → Int64} (h : DX5_readWord I J = some (r, I', J')) : am_F 5 nX5_readWord [.ref 32, .retAddr 0, .retAddr 0, .retAddr 0, .retAddr 0] (TX, I, J, RX) (some (.int r)) (TX, I', J', RX) := by
  unfold DX5_readWord at h
  unfold am_F
  refine am_E.go (n := 3) rfl ?_
  exact (alX5_readWord am_FU) h
def DX5_readSign (I : Nat → Nat → Int32) (J : Nat → Nat → Int64) (a0 : Int32) : Option (Int32 × (Nat → Nat → Int32) × (Nat → Nat → Int64)) :=
  (DX5_letterAt I ((I 32 2))).bind fun q1 =>
  if ¬ q1 = a0 then
    (DX5_fail I J ((I 32 2))).bind fun q2 =>
    some ((0 : Int32), q2.2.1, q2.2.2)
  else
    some ((0 : Int32), (am_upI I 32 2 ((I 32 2) + (1 : Int32))), J)
set_option maxHeartbeats 4000000 in
set_option maxRecDepth 100000 in
theorem axX5_readSign {I : Nat → Nat → Int32} {J : Nat → Nat → Int64} {a0 : Int32} {r : Int32} {I' : Nat → Nat → Int32} {J' : Nat → Nat → Int64} (h : DX5_readSign I J a0 = some (r, I', J')) : am_F 1 nX5_readSign [.ref 32, .int a0] (TX, I, J, RX) (none) (TX, I', J', RX) := by
  unfold DX5_readSign at h
  unfold am_F
  refine am_E.go (n := 2) rfl ?_
  obtain ⟨q1, hq, h⟩ := am_bindI h
  refine am_E.callF rfl (by decide) (axX5_letterAt hq) ?_
  refine am_E.go (n := 0) rfl ?_
  refine am_E.brk rfl (fun hp => ?_) (fun hp => ?_)
  · have h := (if_pos hp).symm.trans h
    refine am_E.go (n := 2) rfl ?_
    obtain ⟨q2, hq, h⟩ := am_bindI h
    obtain ⟨q2_1, q2_2, q2_3⟩ := q2
    refine am_E.callF rfl (by decide) (axX5_fail hq) ?_
    cases h
    exact am_E.ret rfl ⟨rfl, rfl⟩
  · have h := (if_neg hp).symm.trans h
    refine am_E.go (n := 6) rfl ?_
    cases h
    exact am_E.ret rfl ⟨rfl, rfl⟩
def DX5_isDigit (I : Nat → Nat → Int32) (a0 : Int32) : Option Int32 :=
  (DX5_letterAt I a0).bind fun q1 =>
  if q1 < (48 : Int32) then
    some ((0 : Int32))
  else
    (DX5_letterAt I a0).bind fun q2 =>
    if (57 : Int32) < q2 then
      some ((0 : Int32))
    else
      some ((1 : Int32))
set_option maxHeartbeats 4000000 in
set_option maxRecDepth 100000 in
theorem axX5_isDigit {I : Nat → Nat → Int32} {J : Nat → Nat → Int64} {a0 : Int32} {r : Int32} (h : DX5_isDigit I a0 = some r) : am_F 1 nX5_isDigit [.ref 32, .int a0] (TX, I, J, RX) (some (.int r)) (TX, I, J, RX) := by
  unfold DX5_isDigit at h
  unfold am_F
  refine am_E.go (n := 1) rfl ?_
  obtain ⟨q1, hq, h⟩ := am_bindI h
  refine am_E.callF rfl (by decide) (axX5_letterAt hq) ?_
  refine am_E.go (n := 0) rfl ?_
  refine am_E.brk rfl (fun hp => ?_) (fun hp => ?_)
  · have h := (if_pos hp).symm.trans h
    refine am_E.go (n := 0) rfl ?_
    cases h
    first | exact am_E.ret rfl ⟨rfl, rfl⟩ | exact am_E.retG rfl (by decide) ⟨rfl, rfl⟩
  · have h := (if_neg hp).symm.trans h
    refine am_E.go (n := 1) rfl ?_
    obtain ⟨q2, hq, h⟩ := am_bindI h
    refine am_E.callF rfl (by decide) (axX5_letterAt hq) ?_
    refine am_E.go (n := 0) rfl ?_
    refine am_E.brk rfl (fun hp => ?_) (fun hp => ?_)
    · have h := (if_pos hp).symm.trans h
      refine am_E.go (n := 0) rfl ?_
      cases h
      first | exact am_E.ret rfl ⟨rfl, rfl⟩ | exact am_E.retG rfl (by decide) ⟨rfl, rfl⟩
    · have h := (if_neg hp).symm.trans h
      refine am_E.go (n := 1) rfl ?_
      cases h
      first | exact am_E.ret rfl ⟨rfl, rfl⟩ | exact am_E.retG rfl (by decide) ⟨rfl, rfl⟩
def DX5_readNumber (I : Nat → Nat → Int32) (J : Nat → Nat → Int64) (a0 : Int32) (a1 : Int32) : Option (Int32 × (Nat → Nat → Int32) × (Nat → Nat → Int64)) :=
  if (I 32 3) = (-1 : Int32) then
    (DX5_readSign I J ((32 : Int32))).bind fun q1 =>
    if (q1.2.1 32 3) = (-1 : Int32) then
      (DX5_isDigit q1.2.1 ((q1.2.1 32 2))).bind fun q2 =>
      if ¬ q2 = 0 then
        (DX5_letterAt q1.2.1 ((q1.2.1 32 2))).bind fun q3 =>
        (DX5_isDigit (am_upI q1.2.1 32 2 ((q1.2.1 32 2) + (1 : Int32))) ((((am_upI q1.2.1 32 2 ((q1.2.1 32 2) + (1 : Int32)))) 32 2))).bind fun q4 =>
        if q4 = 0 then
          if (q3 - (48 : Int32)) < a0 then
            (DX5_fail (am_upI q1.2.1 32 2 ((q1.2.1 32 2) + (1 : Int32))) q1.2.2 ((q1.2.1 32 2))).bind fun q5 =>
            some ((-1 : Int32), q5.2.1, q5.2.2)
          else
            if (q3 - (48 : Int32)) ≤ a1 then
              some ((q3 - (48 : Int32)), (am_upI q1.2.1 32 2 ((q1.2.1 32 2) + (1 : Int32))), q1.2.2)
            else
              (DX5_fail (am_upI q1.2.1 32 2 ((q1.2.1 32 2) + (1 : Int32))) q1.2.2 ((q1.2.1 32 2))).bind fun q6 =>
              some ((-1 : Int32), q6.2.1, q6.2.2)
        else
          (DX5_letterAt (am_upI q1.2.1 32 2 ((q1.2.1 32 2) + (1 : Int32))) ((((am_upI q1.2.1 32 2 ((q1.2.1 32 2) + (1 : Int32)))) 32 2))).bind fun q7 =>
          (some (am_upI ((am_upI q1.2.1 32 2 ((q1.2.1 32 2) + (1 : Int32)))) 32 2 ((((am_upI q1.2.1 32 2 ((q1.2.1 32 2) + (1 : Int32)))) 32 2) + (1 : Int32)))).bind fun I8 =>
          if ((((q3 - (48 : Int32)) * (10 : Int32)) + q7) - (48 : Int32)) < a0 then
            (DX5_fail I8 q1.2.2 ((q1.2.1 32 2))).bind fun q9 =>
            some ((-1 : Int32), q9.2.1, q9.2.2)
          else
            if ((((q3 - (48 : Int32)) * (10 : Int32)) + q7) - (48 : Int32)) ≤ a1 then
              some (((((q3 - (48 : Int32)) * (10 : Int32)) + q7) - (48 : Int32)), I8, q1.2.2)
            else
              (DX5_fail I8 q1.2.2 ((q1.2.1 32 2))).bind fun q10 =>
              some ((-1 : Int32), q10.2.1, q10.2.2)
      else
        (DX5_fail q1.2.1 q1.2.2 ((q1.2.1 32 2))).bind fun q11 =>
        some ((-1 : Int32), q11.2.1, q11.2.2)
    else
      some ((-1 : Int32), q1.2.1, q1.2.2)
  else
    some ((-1 : Int32), I, J)
set_option maxHeartbeats 4000000 in
set_option maxRecDepth 100000 in
theorem axX5_readNumber {I : Nat → Nat → Int32} {J : Nat → Nat → Int64} {a0 : Int32} {a1 : Int32} {r : Int32} {I' : Nat → Nat → Int32} {J' : Nat → Nat → Int64} (h : DX5_readNumber I J a0 a1 = some (r, I', J')) : am_F 2 nX5_readNumber [.ref 32, .int a0, .int a1, .retAddr 0, .retAddr 0] (TX, I, J, RX) (some (.int r)) (TX, I', J', RX) := by
  unfold DX5_readNumber at h
  unfold am_F
  refine am_E.go (n := 2) rfl ?_
  refine am_E.brk rfl (fun hp => ?_) (fun hp => ?_)
  · have h := (if_pos hp).symm.trans h
    refine am_E.go (n := 1) rfl ?_
    obtain ⟨q1, hq, h⟩ := am_bindI h
    obtain ⟨q1_1, q1_2, q1_3⟩ := q1
    refine am_E.callF rfl (by decide) (axX5_readSign hq) ?_
    refine am_E.go (n := 2) rfl ?_
    refine am_E.brk rfl (fun hp => ?_) (fun hp => ?_)
    · have h := (if_pos hp).symm.trans h
      refine am_E.go (n := 5) rfl ?_
      obtain ⟨q2, hq, h⟩ := am_bindI h
      refine am_E.callF rfl (by decide) (axX5_isDigit hq) ?_
      refine am_E.brk rfl (fun hp => ?_) (fun hp => ?_)
      · have h := (if_pos hp).symm.trans h
        refine am_E.go (n := 2) rfl ?_
        obtain ⟨q3, hq, h⟩ := am_bindI h
        refine am_E.callF rfl (by decide) (axX5_letterAt hq) ?_
        refine am_E.go (n := 11) rfl ?_
        obtain ⟨q4, hq, h⟩ := am_bindI h
        refine am_E.callF rfl (by decide) (axX5_isDigit hq) ?_
        refine am_E.brk rfl (fun hp => ?_) (fun hp => ?_)
        · have h := (if_pos hp).symm.trans h
          refine am_E.go (n := 1) rfl ?_
          refine am_E.brk rfl (fun hp => ?_) (fun hp => ?_)
          · have h := (if_pos hp).symm.trans h
            refine am_E.go (n := 1) rfl ?_
            obtain ⟨q5, hq, h⟩ := am_bindI h
            obtain ⟨q5_1, q5_2, q5_3⟩ := q5
            refine am_E.callF rfl (by decide) (axX5_fail hq) ?_
            refine am_E.go (n := 0) rfl ?_
            cases h
            exact am_E.ret rfl ⟨rfl, rfl⟩
          · have h := (if_neg hp).symm.trans h
            refine am_E.go (n := 1) rfl ?_
            refine am_E.brk rfl (fun hp => ?_) (fun hp => ?_)
            · have h := (if_pos hp).symm.trans h
              refine am_E.go (n := 0) rfl ?_
              cases h
              exact am_E.ret rfl ⟨rfl, rfl⟩
            · have h := (if_neg hp).symm.trans h
              refine am_E.go (n := 1) rfl ?_
              obtain ⟨q6, hq, h⟩ := am_bindI h
              obtain ⟨q6_1, q6_2, q6_3⟩ := q6
              refine am_E.callF rfl (by decide) (axX5_fail hq) ?_
              refine am_E.go (n := 0) rfl ?_
              cases h
              exact am_E.ret rfl ⟨rfl, rfl⟩
        · have h := (if_neg hp).symm.trans h
          refine am_E.go (n := 5) rfl ?_
          obtain ⟨q7, hq, h⟩ := am_bindI h
          refine am_E.callF rfl (by decide) (axX5_letterAt hq) ?_
          refine am_E.go (n := 11) rfl ?_
          obtain ⟨I8, hI, h⟩ := am_bindI h
          obtain rfl := Option.some.inj hI
          refine am_E.brk rfl (fun hp => ?_) (fun hp => ?_)
          · have h := (if_pos hp).symm.trans h
            refine am_E.go (n := 1) rfl ?_
            obtain ⟨q9, hq, h⟩ := am_bindI h
            obtain ⟨q9_1, q9_2, q9_3⟩ := q9
            refine am_E.callF rfl (by decide) (axX5_fail hq) ?_
            refine am_E.go (n := 0) rfl ?_
            cases h
            exact am_E.ret rfl ⟨rfl, rfl⟩
          · have h := (if_neg hp).symm.trans h
            refine am_E.go (n := 1) rfl ?_
            refine am_E.brk rfl (fun hp => ?_) (fun hp => ?_)
            · have h := (if_pos hp).symm.trans h
              refine am_E.go (n := 0) rfl ?_
              cases h
              exact am_E.ret rfl ⟨rfl, rfl⟩
            · have h := (if_neg hp).symm.trans h
              refine am_E.go (n := 1) rfl ?_
              obtain ⟨q10, hq, h⟩ := am_bindI h
              obtain ⟨q10_1, q10_2, q10_3⟩ := q10
              refine am_E.callF rfl (by decide) (axX5_fail hq) ?_
              refine am_E.go (n := 0) rfl ?_
              cases h
              exact am_E.ret rfl ⟨rfl, rfl⟩
      · have h := (if_neg hp).symm.trans h
        refine am_E.go (n := 2) rfl ?_
        obtain ⟨q11, hq, h⟩ := am_bindI h
        obtain ⟨q11_1, q11_2, q11_3⟩ := q11
        refine am_E.callF rfl (by decide) (axX5_fail hq) ?_
        refine am_E.go (n := 0) rfl ?_
        cases h
        exact am_E.ret rfl ⟨rfl, rfl⟩
    · have h := (if_neg hp).symm.trans h
      refine am_E.go (n := 0) rfl ?_
      cases h
      exact am_E.ret rfl ⟨rfl, rfl⟩
  · have h := (if_neg hp).symm.trans h
    refine am_E.go (n := 0) rfl ?_
    cases h
    exact am_E.ret rfl ⟨rfl, rfl⟩
def DX5_readStuff (I : Nat → Nat → Int32) (J : Nat → Nat → Int64) (g0 : Nat) (a1 : Int32) : Option (Int32 × (Nat → Nat → Int32) × (Nat → Nat → Int64)) :=
  if ¬ (DX1_hasRoom I g0) = 0 then
    (DX5_readNumber I J ((0 : Int32)) ((6 : Int32))).bind fun q1 =>
    (DX5_readNumber q1.2.1 q1.2.2 ((0 : Int32)) ((7 : Int32))).bind fun q2 =>
    (DX5_readNumber q2.2.1 q2.2.2 ((0 : Int32)) ((9 : Int32))).bind fun q3 =>
    if ¬ (q3.2.1 32 3) = (-1 : Int32) then
      some ((0 : Int32), q3.2.1, q3.2.2)
    else
      (DX1_addStuff q3.2.1 q3.2.2 g0 q1.1 q2.1 q3.1).bind fun q4 =>
      some ((0 : Int32), q4.2.1, q4.2.2)
  else
    (DX5_fail I J a1).bind fun q5 =>
    (DX5_readNumber q5.2.1 q5.2.2 ((0 : Int32)) ((6 : Int32))).bind fun q6 =>
    (DX5_readNumber q6.2.1 q6.2.2 ((0 : Int32)) ((7 : Int32))).bind fun q7 =>
    (DX5_readNumber q7.2.1 q7.2.2 ((0 : Int32)) ((9 : Int32))).bind fun q8 =>
    if ¬ (q8.2.1 32 3) = (-1 : Int32) then
      some ((0 : Int32), q8.2.1, q8.2.2)
    else
      (DX1_addStuff q8.2.1 q8.2.2 g0 q6.1 q7.1 q8.1).bind fun q9 =>
      some ((0 : Int32), q9.2.1, q9.2.2)
set_option maxHeartbeats 4000000 in
set_option maxRecDepth 100000 in
theorem axX5_readStuff {I : Nat → Nat → Int32} {J : Nat → Nat → Int64} {g0 : Nat} {a1 : Int32} {r : Int32} {I' : Nat → Nat → Int32} {J' : Nat → Nat → Int64} (hg0 : dm_b g0) (h : DX5_readStuff I J g0 a1 = some (r, I', J')) : am_F 3 nX5_readStuff [.ref 32, .ref g0, .int a1, .retAddr 0, .retAddr 0, .retAddr 0] (TX, I, J, RX) (none) (TX, I', J', RX) := by
  unfold DX5_readStuff at h
  unfold am_F
  unfold dm_b at hg0
  rcases hg0 with rfl | rfl | rfl
  all_goals
    refine am_E.go (n := 0) rfl ?_
    refine am_E.callF rfl (by decide) (axX1_hasRoom (by decide) rfl) ?_
    refine am_E.brk rfl (fun hp => ?_) (fun hp => ?_)
    · have h := (if_pos hp).symm.trans h
      refine am_E.go (n := 2) rfl ?_
      obtain ⟨q1, hq, h⟩ := am_bindI h
      obtain ⟨q1_1, q1_2, q1_3⟩ := q1
      refine am_E.callF rfl (by decide) (axX5_readNumber hq) ?_
      refine am_E.go (n := 3) rfl ?_
      obtain ⟨q2, hq, h⟩ := am_bindI h
      obtain ⟨q2_1, q2_2, q2_3⟩ := q2
      refine am_E.callF rfl (by decide) (axX5_readNumber hq) ?_
      refine am_E.go (n := 3) rfl ?_
      obtain ⟨q3, hq, h⟩ := am_bindI h
      obtain ⟨q3_1, q3_2, q3_3⟩ := q3
      refine am_E.callF rfl (by decide) (axX5_readNumber hq) ?_
      refine am_E.go (n := 3) rfl ?_
      refine am_E.brk rfl (fun hp => ?_) (fun hp => ?_)
      · have h := (if_pos hp).symm.trans h
        cases h
        exact am_E.ret rfl ⟨rfl, rfl⟩
      · have h := (if_neg hp).symm.trans h
        refine am_E.go (n := 3) rfl ?_
        obtain ⟨q4, hq, h⟩ := am_bindI h
        obtain ⟨q4_1, q4_2, q4_3⟩ := q4
        refine am_E.callF rfl (by decide) (axX1_addStuff (by decide) hq) ?_
        refine am_E.go (n := 0) rfl ?_
        cases h
        exact am_E.ret rfl ⟨rfl, rfl⟩
    · have h := (if_neg hp).symm.trans h
      refine am_E.go (n := 1) rfl ?_
      obtain ⟨q5, hq, h⟩ := am_bindI h
      obtain ⟨q5_1, q5_2, q5_3⟩ := q5
      refine am_E.callF rfl (by decide) (axX5_fail hq) ?_
      refine am_E.go (n := 2) rfl ?_
      obtain ⟨q6, hq, h⟩ := am_bindI h
      obtain ⟨q6_1, q6_2, q6_3⟩ := q6
      refine am_E.callF rfl (by decide) (axX5_readNumber hq) ?_
      refine am_E.go (n := 3) rfl ?_
      obtain ⟨q7, hq, h⟩ := am_bindI h
      obtain ⟨q7_1, q7_2, q7_3⟩ := q7
      refine am_E.callF rfl (by decide) (axX5_readNumber hq) ?_
      refine am_E.go (n := 3) rfl ?_
      obtain ⟨q8, hq, h⟩ := am_bindI h
      obtain ⟨q8_1, q8_2, q8_3⟩ := q8
      refine am_E.callF rfl (by decide) (axX5_readNumber hq) ?_
      refine am_E.go (n := 3) rfl ?_
      refine am_E.brk rfl (fun hp => ?_) (fun hp => ?_)
      · have h := (if_pos hp).symm.trans h
        cases h
        exact am_E.ret rfl ⟨rfl, rfl⟩
      · have h := (if_neg hp).symm.trans h
        refine am_E.go (n := 3) rfl ?_
        obtain ⟨q9, hq, h⟩ := am_bindI h
        obtain ⟨q9_1, q9_2, q9_3⟩ := q9
        refine am_E.callF rfl (by decide) (axX1_addStuff (by decide) hq) ?_
        refine am_E.go (n := 0) rfl ?_
        cases h
        exact am_E.ret rfl ⟨rfl, rfl⟩
def DX5_readCell (I : Nat → Nat → Int32) (J : Nat → Nat → Int64) (g0 : Nat) : Option (Int32 × (Nat → Nat → Int32) × (Nat → Nat → Int64)) :=
  (DX5_readNumber I J ((0 : Int32)) ((23 : Int32))).bind fun q1 =>
  (DX5_readNumber q1.2.1 q1.2.2 ((0 : Int32)) ((7 : Int32))).bind fun q2 =>
  if ¬ (q2.2.1 32 3) = (-1 : Int32) then
    some ((0 : Int32), q2.2.1, q2.2.2)
  else
    (DX1_draw q2.2.1 q2.2.2 g0 q1.1 q2.1).bind fun q3 =>
    some ((0 : Int32), q3.2.1, q3.2.2)
set_option maxHeartbeats 4000000 in
set_option maxRecDepth 100000 in
theorem axX5_readCell {I : Nat → Nat → Int32} {J : Nat → Nat → Int64} {g0 : Nat} {r : Int32} {I' : Nat → Nat → Int32} {J' : Nat → Nat → Int64} (hg0 : dm_b g0) (h : DX5_readCell I J g0 = some (r, I', J')) : am_F 3 nX5_readCell [.ref 32, .ref g0, .retAddr 0, .retAddr 0] (TX, I, J, RX) (none) (TX, I', J', RX) := by
  unfold DX5_readCell at h
  unfold am_F
  unfold dm_b at hg0
  rcases hg0 with rfl | rfl | rfl
  all_goals
    refine am_E.go (n := 2) rfl ?_
    obtain ⟨q1, hq, h⟩ := am_bindI h
    obtain ⟨q1_1, q1_2, q1_3⟩ := q1
    refine am_E.callF rfl (by decide) (axX5_readNumber hq) ?_
    refine am_E.go (n := 3) rfl ?_
    obtain ⟨q2, hq, h⟩ := am_bindI h
    obtain ⟨q2_1, q2_2, q2_3⟩ := q2
    refine am_E.callF rfl (by decide) (axX5_readNumber hq) ?_
    refine am_E.go (n := 3) rfl ?_
    refine am_E.brk rfl (fun hp => ?_) (fun hp => ?_)
    · have h := (if_pos hp).symm.trans h
      cases h
      exact am_E.ret rfl ⟨rfl, rfl⟩
    · have h := (if_neg hp).symm.trans h
      refine am_E.go (n := 2) rfl ?_
      obtain ⟨q3, hq, h⟩ := am_bindI h
      obtain ⟨q3_1, q3_2, q3_3⟩ := q3
      refine am_E.callF rfl (by decide) (axX1_draw (by decide) hq) ?_
      cases h
      exact am_E.ret rfl ⟨rfl, rfl⟩
def DX5_readPlan (I : Nat → Nat → Int32) (J : Nat → Nat → Int64) (g0 : Nat) : Option (Int32 × (Nat → Nat → Int32) × (Nat → Nat → Int64)) :=
  (DX5_readNumber I J ((0 : Int32)) ((23 : Int32))).bind fun q1 =>
  (DX5_readNumber q1.2.1 q1.2.2 ((0 : Int32)) (((DX1_stuffCount q1.2.1 g0) - (1 : Int32)))).bind fun q2 =>
  if ¬ (q2.2.1 32 3) = (-1 : Int32) then
    some ((0 : Int32), q2.2.1, q2.2.2)
  else
    (DX1_planFor q2.2.1 q2.2.2 g0 q1.1 q2.1).bind fun q3 =>
    some ((0 : Int32), q3.2.1, q3.2.2)
set_option maxHeartbeats 4000000 in
set_option maxRecDepth 100000 in
theorem axX5_readPlan {I : Nat → Nat → Int32} {J : Nat → Nat → Int64} {g0 : Nat} {r : Int32} {I' : Nat → Nat → Int32} {J' : Nat → Nat → Int64} (hg0 : dm_b g0) (h : DX5_readPlan I J g0 = some (r, I', J')) : am_F 3 nX5_readPlan [.ref 32, .ref g0, .retAddr 0, .retAddr 0] (TX, I, J, RX) (none) (TX, I', J', RX) := by
  unfold DX5_readPlan at h
  unfold am_F
  unfold dm_b at hg0
  rcases hg0 with rfl | rfl | rfl
  all_goals
    refine am_E.go (n := 2) rfl ?_
    obtain ⟨q1, hq, h⟩ := am_bindI h
    obtain ⟨q1_1, q1_2, q1_3⟩ := q1
    refine am_E.callF rfl (by decide) (axX5_readNumber hq) ?_
    refine am_E.go (n := 3) rfl ?_
    refine am_E.callF rfl (by decide) (axX1_stuffCount (by decide) rfl) ?_
    refine am_E.go (n := 1) rfl ?_
    obtain ⟨q2, hq, h⟩ := am_bindI h
    obtain ⟨q2_1, q2_2, q2_3⟩ := q2
    refine am_E.callF rfl (by decide) (axX5_readNumber hq) ?_
    refine am_E.go (n := 3) rfl ?_
    refine am_E.brk rfl (fun hp => ?_) (fun hp => ?_)
    · have h := (if_pos hp).symm.trans h
      cases h
      exact am_E.ret rfl ⟨rfl, rfl⟩
    · have h := (if_neg hp).symm.trans h
      refine am_E.go (n := 2) rfl ?_
      obtain ⟨q3, hq, h⟩ := am_bindI h
      obtain ⟨q3_1, q3_2, q3_3⟩ := q3
      refine am_E.callF rfl (by decide) (axX1_planFor (by decide) hq) ?_
      cases h
      exact am_E.ret rfl ⟨rfl, rfl⟩
def DX5_readLaying (I : Nat → Nat → Int32) (J : Nat → Nat → Int64) (g0 : Nat) : Option (Int32 × (Nat → Nat → Int32) × (Nat → Nat → Int64)) :=
  (DX5_readNumber I J ((0 : Int32)) ((23 : Int32))).bind fun q1 =>
  if ¬ (q1.2.1 32 3) = (-1 : Int32) then
    (DX5_readNumber q1.2.1 q1.2.2 ((0 : Int32)) (((DX1_stuffCount q1.2.1 g0) - (1 : Int32)))).bind fun q2 =>
    if ¬ (q2.2.1 32 3) = (-1 : Int32) then
      some ((0 : Int32), q2.2.1, q2.2.2)
    else
      (DX1_layOn q2.2.1 q2.2.2 g0 q1.1 q2.1).bind fun q3 =>
      some ((0 : Int32), q3.2.1, q3.2.2)
  else
    (DX1_mayBeLaid q1.2.1 g0 q1.1).bind fun q4 =>
    if ¬ q4 = 0 then
      (DX5_readNumber q1.2.1 q1.2.2 ((0 : Int32)) (((DX1_stuffCount q1.2.1 g0) - (1 : Int32)))).bind fun q5 =>
      if ¬ (q5.2.1 32 3) = (-1 : Int32) then
        some ((0 : Int32), q5.2.1, q5.2.2)
      else
        (DX1_layOn q5.2.1 q5.2.2 g0 q1.1 q5.1).bind fun q6 =>
        some ((0 : Int32), q6.2.1, q6.2.2)
    else
      (DX5_fail q1.2.1 q1.2.2 (((I 32 2) + (1 : Int32)))).bind fun q7 =>
      (DX5_readNumber q7.2.1 q7.2.2 ((0 : Int32)) (((DX1_stuffCount q7.2.1 g0) - (1 : Int32)))).bind fun q8 =>
      if ¬ (q8.2.1 32 3) = (-1 : Int32) then
        some ((0 : Int32), q8.2.1, q8.2.2)
      else
        (DX1_layOn q8.2.1 q8.2.2 g0 q1.1 q8.1).bind fun q9 =>
        some ((0 : Int32), q9.2.1, q9.2.2)
set_option maxHeartbeats 4000000 in
set_option maxRecDepth 100000 in
theorem axX5_readLaying {I : Nat → Nat → Int32} {J : Nat → Nat → Int64} {g0 : Nat} {r : Int32} {I' : Nat → Nat → Int32} {J' : Nat → Nat → Int64} (hg0 : dm_b g0) (h : DX5_readLaying I J g0 = some (r, I', J')) : am_F 3 nX5_readLaying [.ref 32, .ref g0, .retAddr 0, .retAddr 0, .retAddr 0] (TX, I, J, RX) (none) (TX, I', J', RX) := by
  unfold DX5_readLaying at h
  unfold am_F
  unfold dm_b at hg0
  rcases hg0 with rfl | rfl | rfl
  all_goals
    refine am_E.go (n := 7) rfl ?_
    obtain ⟨q1, hq, h⟩ := am_bindI h
    obtain ⟨q1_1, q1_2, q1_3⟩ := q1
    refine am_E.callF rfl (by decide) (axX5_readNumber hq) ?_
    refine am_E.go (n := 3) rfl ?_
    refine am_E.brk rfl (fun hp => ?_) (fun hp => ?_)
    · have h := (if_pos hp).symm.trans h
      refine am_E.go (n := 2) rfl ?_
      refine am_E.callF rfl (by decide) (axX1_stuffCount (by decide) rfl) ?_
      refine am_E.go (n := 1) rfl ?_
      obtain ⟨q2, hq, h⟩ := am_bindI h
      obtain ⟨q2_1, q2_2, q2_3⟩ := q2
      refine am_E.callF rfl (by decide) (axX5_readNumber hq) ?_
      refine am_E.go (n := 3) rfl ?_
      refine am_E.brk rfl (fun hp => ?_) (fun hp => ?_)
      · have h := (if_pos hp).symm.trans h
        cases h
        exact am_E.ret rfl ⟨rfl, rfl⟩
      · have h := (if_neg hp).symm.trans h
        refine am_E.go (n := 2) rfl ?_
        obtain ⟨q3, hq, h⟩ := am_bindI h
        obtain ⟨q3_1, q3_2, q3_3⟩ := q3
        refine am_E.callF rfl (by decide) (axX1_layOn (by decide) hq) ?_
        cases h
        exact am_E.ret rfl ⟨rfl, rfl⟩
    · have h := (if_neg hp).symm.trans h
      refine am_E.go (n := 1) rfl ?_
      obtain ⟨q4, hq, h⟩ := am_bindI h
      refine am_E.callF rfl (by decide) (axX1_mayBeLaid (by decide) hq) ?_
      refine am_E.brk rfl (fun hp => ?_) (fun hp => ?_)
      · have h := (if_pos hp).symm.trans h
        refine am_E.go (n := 2) rfl ?_
        refine am_E.callF rfl (by decide) (axX1_stuffCount (by decide) rfl) ?_
        refine am_E.go (n := 1) rfl ?_
        obtain ⟨q5, hq, h⟩ := am_bindI h
        obtain ⟨q5_1, q5_2, q5_3⟩ := q5
        refine am_E.callF rfl (by decide) (axX5_readNumber hq) ?_
        refine am_E.go (n := 3) rfl ?_
        refine am_E.brk rfl (fun hp => ?_) (fun hp => ?_)
        · have h := (if_pos hp).symm.trans h
          cases h
          exact am_E.ret rfl ⟨rfl, rfl⟩
        · have h := (if_neg hp).symm.trans h
          refine am_E.go (n := 2) rfl ?_
          obtain ⟨q6, hq, h⟩ := am_bindI h
          obtain ⟨q6_1, q6_2, q6_3⟩ := q6
          refine am_E.callF rfl (by decide) (axX1_layOn (by decide) hq) ?_
          cases h
          exact am_E.ret rfl ⟨rfl, rfl⟩
      · have h := (if_neg hp).symm.trans h
        refine am_E.go (n := 1) rfl ?_
        obtain ⟨q7, hq, h⟩ := am_bindI h
        obtain ⟨q7_1, q7_2, q7_3⟩ := q7
        refine am_E.callF rfl (by decide) (axX5_fail hq) ?_
        refine am_E.go (n := 2) rfl ?_
        refine am_E.callF rfl (by decide) (axX1_stuffCount (by decide) rfl) ?_
        refine am_E.go (n := 1) rfl ?_
        obtain ⟨q8, hq, h⟩ := am_bindI h
        obtain ⟨q8_1, q8_2, q8_3⟩ := q8
        refine am_E.callF rfl (by decide) (axX5_readNumber hq) ?_
        refine am_E.go (n := 3) rfl ?_
        refine am_E.brk rfl (fun hp => ?_) (fun hp => ?_)
        · have h := (if_pos hp).symm.trans h
          cases h
          exact am_E.ret rfl ⟨rfl, rfl⟩
        · have h := (if_neg hp).symm.trans h
          refine am_E.go (n := 2) rfl ?_
          obtain ⟨q9, hq, h⟩ := am_bindI h
          obtain ⟨q9_1, q9_2, q9_3⟩ := q9
          refine am_E.callF rfl (by decide) (axX1_layOn (by decide) hq) ?_
          cases h
          exact am_E.ret rfl ⟨rfl, rfl⟩
def DX5_readSide (I : Nat → Nat → Int32) (J : Nat → Nat → Int64) (g0 : Nat) : Option (Int32 × (Nat → Nat → Int32) × (Nat → Nat → Int64)) :=
  (DX5_readNumber I J ((0 : Int32)) ((2 : Int32))).bind fun q1 =>
  if ¬ (q1.2.1 32 3) = (-1 : Int32) then
    some ((0 : Int32), q1.2.1, q1.2.2)
  else
    (DX1_turnTo q1.2.1 q1.2.2 g0 q1.1).bind fun q2 =>
    some ((0 : Int32), q2.2.1, q2.2.2)
set_option maxHeartbeats 4000000 in
set_option maxRecDepth 100000 in
theorem axX5_readSide {I : Nat → Nat → Int32} {J : Nat → Nat → Int64} {g0 : Nat} {r : Int32} {I' : Nat → Nat → Int32} {J' : Nat → Nat → Int64} (hg0 : dm_b g0) (h : DX5_readSide I J g0 = some (r, I', J')) : am_F 3 nX5_readSide [.ref 32, .ref g0, .retAddr 0] (TX, I, J, RX) (none) (TX, I', J', RX) := by
  unfold DX5_readSide at h
  unfold am_F
  unfold dm_b at hg0
  rcases hg0 with rfl | rfl | rfl
  all_goals
    refine am_E.go (n := 2) rfl ?_
    obtain ⟨q1, hq, h⟩ := am_bindI h
    obtain ⟨q1_1, q1_2, q1_3⟩ := q1
    refine am_E.callF rfl (by decide) (axX5_readNumber hq) ?_
    refine am_E.go (n := 3) rfl ?_
    refine am_E.brk rfl (fun hp => ?_) (fun hp => ?_)
    · have h := (if_pos hp).symm.trans h
      cases h
      exact am_E.ret rfl ⟨rfl, rfl⟩
    · have h := (if_neg hp).symm.trans h
      refine am_E.go (n := 1) rfl ?_
      obtain ⟨q2, hq, h⟩ := am_bindI h
      obtain ⟨q2_1, q2_2, q2_3⟩ := q2
      refine am_E.callF rfl (by decide) (axX1_turnTo (by decide) hq) ?_
      cases h
      exact am_E.ret rfl ⟨rfl, rfl⟩
def DX5_readHours (I : Nat → Nat → Int32) (J : Nat → Nat → Int64) (g0 : Nat) : Option (Int32 × (Nat → Nat → Int32) × (Nat → Nat → Int64)) :=
  (DX5_readNumber I J ((1 : Int32)) ((99 : Int32))).bind fun q1 =>
  if ¬ (q1.2.1 32 3) = (-1 : Int32) then
    some ((0 : Int32), q1.2.1, q1.2.2)
  else
    (DX1_passHours q1.2.1 q1.2.2 g0 q1.1).bind fun q2 =>
    some ((0 : Int32), q2.2.1, q2.2.2)
set_option maxHeartbeats 4000000 in
set_option maxRecDepth 100000 in
theorem axX5_readHours {I : Nat → Nat → Int32} {J : Nat → Nat → Int64} {g0 : Nat} {r : Int32} {I' : Nat → Nat → Int32} {J' : Nat → Nat → Int64} (hg0 : dm_b g0) (h : DX5_readHours I J g0 = some (r, I', J')) : am_F 3 nX5_readHours [.ref 32, .ref g0, .retAddr 0] (TX, I, J, RX) (none) (TX, I', J', RX) := by
  unfold DX5_readHours at h
  unfold am_F
  unfold dm_b at hg0
  rcases hg0 with rfl | rfl | rfl
  all_goals
    refine am_E.go (n := 2) rfl ?_
    obtain ⟨q1, hq, h⟩ := am_bindI h
    obtain ⟨q1_1, q1_2, q1_3⟩ := q1
    refine am_E.callF rfl (by decide) (axX5_readNumber hq) ?_
    refine am_E.go (n := 3) rfl ?_
    refine am_E.brk rfl (fun hp => ?_) (fun hp => ?_)
    · have h := (if_pos hp).symm.trans h
      cases h
      exact am_E.ret rfl ⟨rfl, rfl⟩
    · have h := (if_neg hp).symm.trans h
      refine am_E.go (n := 1) rfl ?_
      obtain ⟨q2, hq, h⟩ := am_bindI h
      obtain ⟨q2_1, q2_2, q2_3⟩ := q2
      refine am_E.callF rfl (by decide) (axX1_passHours (by decide) hq) ?_
      cases h
      exact am_E.ret rfl ⟨rfl, rfl⟩
def DX5_readItem (I : Nat → Nat → Int32) (J : Nat → Nat → Int64) (g0 : Nat) : Option (Int32 × (Nat → Nat → Int32) × (Nat → Nat → Int64)) :=
  (DX5_readWord I J).bind fun q1 =>
  if q1.1 = 0 then
    ((DX5_readStuff q1.2.1 q1.2.2 g0 ((I 32 2))).bind fun q2 =>
    some ((0 : Int32), q2.2.1, q2.2.2))
  else if q1.1 = 1 then
    ((DX5_readCell q1.2.1 q1.2.2 g0).bind fun q3 =>
    some ((0 : Int32), q3.2.1, q3.2.2))
  else if q1.1 = 2 then
    ((DX5_readPlan q1.2.1 q1.2.2 g0).bind fun q4 =>
    some ((0 : Int32), q4.2.1, q4.2.2))
  else if q1.1 = 3 then
    ((DX5_readLaying q1.2.1 q1.2.2 g0).bind fun q5 =>
    some ((0 : Int32), q5.2.1, q5.2.2))
  else if q1.1 = 4 then
    ((DX5_readSide q1.2.1 q1.2.2 g0).bind fun q6 =>
    some ((0 : Int32), q6.2.1, q6.2.2))
  else if q1.1 = 5 then
    ((DX1_sprayOnce q1.2.1 q1.2.2 g0).bind fun q7 =>
    some ((0 : Int32), q7.2.1, q7.2.2))
  else if q1.1 = 6 then
    ((DX5_readHours q1.2.1 q1.2.2 g0).bind fun q8 =>
    some ((0 : Int32), q8.2.1, q8.2.2))
  else some ((0 : Int32), q1.2.1, q1.2.2)
set_option maxHeartbeats 4000000 in
set_option maxRecDepth 100000 in
theorem axX5_readItem {I : Nat → Nat → Int32} {J : Nat → Nat → Int64} {g0 : Nat} {r : Int32} {I' : Nat → Nat → Int32} {J' : Nat → Nat → Int64} (hg0 : dm_b g0) (h : DX5_readItem I J g0 = some (r, I', J')) : am_F 6 nX5_readItem [.ref 32, .ref g0, .retAddr 0, .retAddr 0] (TX, I, J, RX) (none) (TX, I', J', RX) := by
  unfold DX5_readItem at h
  unfold am_F
  unfold dm_b at hg0
  rcases hg0 with rfl | rfl | rfl
  all_goals
    refine am_E.go (n := 3) rfl ?_
    obtain ⟨q1, hq, h⟩ := am_bindI h
    obtain ⟨q1_1, q1_2, q1_3⟩ := q1
    refine am_E.callF rfl (by decide) (axX5_readWord hq) ?_
    refine am_E.go (n := 1) rfl ?_
    refine am_E.sw rfl ?_
    refine ⟨fun hp => ?_, fun hp => ?_⟩
    · have h := (if_pos hp).symm.trans h
      refine am_E.go (n := 2) rfl ?_
      obtain ⟨q2, hq, h⟩ := am_bindI h
      obtain ⟨q2_1, q2_2, q2_3⟩ := q2
      refine am_E.callF rfl (by decide) (axX5_readStuff (by decide) hq) ?_
      refine am_E.go (n := 0) rfl ?_
      cases h
      exact am_E.ret rfl ⟨rfl, rfl⟩
    have h := (if_neg hp).symm.trans h
    refine ⟨fun hp => ?_, fun hp => ?_⟩
    · have h := (if_pos hp).symm.trans h
      refine am_E.go (n := 1) rfl ?_
      obtain ⟨q3, hq, h⟩ := am_bindI h
      obtain ⟨q3_1, q3_2, q3_3⟩ := q3
      refine am_E.callF rfl (by decide) (axX5_readCell (by decide) hq) ?_
      refine am_E.go (n := 0) rfl ?_
      cases h
      exact am_E.ret rfl ⟨rfl, rfl⟩
    have h := (if_neg hp).symm.trans h
    refine ⟨fun hp => ?_, fun hp => ?_⟩
    · have h := (if_pos hp).symm.trans h
      refine am_E.go (n := 1) rfl ?_
      obtain ⟨q4, hq, h⟩ := am_bindI h
      obtain ⟨q4_1, q4_2, q4_3⟩ := q4
      refine am_E.callF rfl (by decide) (axX5_readPlan (by decide) hq) ?_
      refine am_E.go (n := 0) rfl ?_
      cases h
      exact am_E.ret rfl ⟨rfl, rfl⟩
    have h := (if_neg hp).symm.trans h
    refine ⟨fun hp => ?_, fun hp => ?_⟩
    · have h := (if_pos hp).symm.trans h
      refine am_E.go (n := 1) rfl ?_
      obtain ⟨q5, hq, h⟩ := am_bindI h
      obtain ⟨q5_1, q5_2, q5_3⟩ := q5
      refine am_E.callF rfl (by decide) (axX5_readLaying (by decide) hq) ?_
      refine am_E.go (n := 0) rfl ?_
      cases h
      exact am_E.ret rfl ⟨rfl, rfl⟩
    have h := (if_neg hp).symm.trans h
    refine ⟨fun hp => ?_, fun hp => ?_⟩
    · have h := (if_pos hp).symm.trans h
      refine am_E.go (n := 1) rfl ?_
      obtain ⟨q6, hq, h⟩ := am_bindI h
      obtain ⟨q6_1, q6_2, q6_3⟩ := q6
      refine am_E.callF rfl (by decide) (axX5_readSide (by decide) hq) ?_
      refine am_E.go (n := 0) rfl ?_
      cases h
      exact am_E.ret rfl ⟨rfl, rfl⟩
    have h := (if_neg hp).symm.trans h
    refine ⟨fun hp => ?_, fun hp => ?_⟩
    · have h := (if_pos hp).symm.trans h
      refine am_E.go (n := 0) rfl ?_
      obtain ⟨q7, hq, h⟩ := am_bindI h
      obtain ⟨q7_1, q7_2, q7_3⟩ := q7
      refine am_E.callF rfl (by decide) (axX1_sprayOnce (by decide) hq) ?_
      refine am_E.go (n := 0) rfl ?_
      cases h
      exact am_E.ret rfl ⟨rfl, rfl⟩
    have h := (if_neg hp).symm.trans h
    refine ⟨fun hp => ?_, fun hp => ?_⟩
    · have h := (if_pos hp).symm.trans h
      refine am_E.go (n := 1) rfl ?_
      obtain ⟨q8, hq, h⟩ := am_bindI h
      obtain ⟨q8_1, q8_2, q8_3⟩ := q8
      refine am_E.callF rfl (by decide) (axX5_readHours (by decide) hq) ?_
      refine am_E.go (n := 0) rfl ?_
      cases h
      exact am_E.ret rfl ⟨rfl, rfl⟩
    have h := (if_neg hp).symm.trans h
    cases h
    exact am_E.ret rfl ⟨rfl, rfl⟩
def LX5_tell : Nat → (Nat → Nat → Int32) → (Nat → Nat → Int64) → Nat → Nat → Int32 → Option (Int32 × (Nat → Nat → Int32) × (Nat → Nat → Int64))
  | 0, _, _, _, _, _ => none
  | n + 1, I, J, g0, g1, x3 =>
    if (160 : Int32) < x3 then
      some (x3, I, J)
    else
      (DX5_readItem I J g1).bind fun q4 =>
      if (q4.2.1 32 3) = (-1 : Int32) then
        if (q4.2.1 32 2) < (q4.2.1 32 1) then
          (DX5_readSign q4.2.1 q4.2.2 ((59 : Int32))).bind fun q5 =>
          if (q5.2.1 32 3) = (-1 : Int32) then
            LX5_tell n q5.2.1 q5.2.2 g0 g1 ((x3 + (1 : Int32)))
          else
            some ((x3 + (1 : Int32)), q5.2.1, q5.2.2)
        else
          some ((x3 + (1 : Int32)), q4.2.1, q4.2.2)
      else
        some (x3, q4.2.1, q4.2.2)
def DX5_tell (I : Nat → Nat → Int32) (J : Nat → Nat → Int64) (g0 : Nat) (g1 : Nat) : Option (Int32 × (Nat → Nat → Int32) × (Nat → Nat → Int64)) :=
  (DX5_takeLetters I J g0).bind fun q1 =>
  LX5_tell am_FU q1.2.1 q1.2.2 g0 g1 ((0 : Int32))
set_option maxHeartbeats 4000000 in
set_option maxRecDepth 100000 in
theorem alX5_tell : ∀ (n : Nat), ∀ {I : Nat → Nat → Int32} {J : Nat → Nat → Int64} {g0 : Nat} {g1 : Nat} {x3 : Int32} {I' : Nat → Nat → Int32} {J' : Nat → Nat → Int64} {r : Int32}, dm_s g0 → dm_b g1 → LX5_tell n I J g0 g1 x3 = some (r, I', J') → am_E 7 nX5_tell (7, [.ref 32, .retAddr 0, .ref g1, .int x3], [], (TX, I, J, RX)) (fun v M' => v = some (.int r) ∧ M' = (TX, I', J', RX)) := by
  intro n
  induction n with
  | zero => intros; contradiction
  | succ n ih =>
    intro I J g0 g1 x3 I' J' r hg0 hg1 h
    simp only [LX5_tell] at h
    unfold dm_s at hg0
    unfold dm_b at hg1
    rcases hg0 with rfl | rfl | rfl | rfl | rfl | rfl | rfl | rfl <;> rcases hg1 with rfl | rfl | rfl
    all_goals
      refine am_E.go (n := 1) rfl ?_
      refine am_E.brk rfl (fun hp => ?_) (fun hp => ?_)
      · have h := (if_pos hp).symm.trans h
        refine am_E.go (n := 0) rfl ?_
        cases h
        exact am_E.ret rfl ⟨rfl, rfl⟩
      · have h := (if_neg hp).symm.trans h
        refine am_E.go (n := 1) rfl ?_
        obtain ⟨q4, hq, h⟩ := am_bindI h
        obtain ⟨q4_1, q4_2, q4_3⟩ := q4
        refine am_E.callF rfl (by decide) (axX5_readItem (by decide) hq) ?_
        refine am_E.go (n := 2) rfl ?_
        refine am_E.brk rfl (fun hp => ?_) (fun hp => ?_)
        · have h := (if_pos hp).symm.trans h
          refine am_E.go (n := 4) rfl ?_
          refine am_E.brk rfl (fun hp => ?_) (fun hp => ?_)
          · have h := (if_pos hp).symm.trans h
            refine am_E.go (n := 1) rfl ?_
            obtain ⟨q5, hq, h⟩ := am_bindI h
            obtain ⟨q5_1, q5_2, q5_3⟩ := q5
            refine am_E.callF rfl (by decide) (axX5_readSign hq) ?_
            refine am_E.go (n := 2) rfl ?_
            refine am_E.brk rfl (fun hp => ?_) (fun hp => ?_)
            · have h := (if_pos hp).symm.trans h
              exact ih (by decide) (by decide) h
            · have h := (if_neg hp).symm.trans h
              refine am_E.go (n := 0) rfl ?_
              cases h
              exact am_E.ret rfl ⟨rfl, rfl⟩
          · have h := (if_neg hp).symm.trans h
            refine am_E.go (n := 0) rfl ?_
            cases h
            exact am_E.ret rfl ⟨rfl, rfl⟩
        · have h := (if_neg hp).symm.trans h
          refine am_E.go (n := 0) rfl ?_
          cases h
          exact am_E.ret rfl ⟨rfl, rfl⟩
set_option maxHeartbeats 4000000 in
set_option maxRecDepth 100000 in
theorem axX5_tell {I : Nat → Nat → Int32} {J : Nat → Nat → Int64} {g0 : Nat} {g1 : Nat} {r : Int32} {I' : Nat → Nat → Int32} {J' : Nat → Nat → Int64} (hg0 : dm_s g0) (hg1 : dm_b g1) (h : DX5_tell I J g0 g1 = some (r, I', J')) : am_F 7 nX5_tell [.ref 32, .ref g0, .ref g1, .retAddr 0] (TX, I, J, RX) (some (.int r)) (TX, I', J', RX) := by
  unfold DX5_tell at h
  unfold am_F
  unfold dm_s at hg0
  unfold dm_b at hg1
  rcases hg0 with rfl | rfl | rfl | rfl | rfl | rfl | rfl | rfl <;> rcases hg1 with rfl | rfl | rfl
  all_goals
    refine am_E.go (n := 1) rfl ?_
    obtain ⟨q1, hq, h⟩ := am_bindI h
    obtain ⟨q1_1, q1_2, q1_3⟩ := q1
    refine am_E.callF rfl (by decide) (axX5_takeLetters (by decide) hq) ?_
    refine am_E.go (n := 1) rfl ?_
    refine am_E.less (ls0 := [_, .retAddr 0, _, _]) ?_ ⟨Or.inl rfl, Or.inr ⟨rfl, rfl⟩, Or.inl rfl, Or.inl rfl, trivial⟩
    exact (alX5_tell am_FU) (by decide) (by decide) h
def DX6_minutesFor (I : Nat → Nat → Int32) (g0 : Nat) (a1 : Int32) : Option Int32 :=
  (DX1_isPlannedBare I g0 a1).bind fun q1 =>
  if q1 = 0 then
    some ((0 : Int32))
  else
    (DX1_plannedAt I g0 a1).bind fun q2 =>
    (DX1_aOf I g0 q2).bind fun q3 =>
    some (((10 : Int32) - q3))
set_option maxHeartbeats 4000000 in
set_option maxRecDepth 100000 in
theorem axX6_minutesFor {I : Nat → Nat → Int32} {J : Nat → Nat → Int64} {g0 : Nat} {a1 : Int32} {r : Int32} (hg0 : dm_b g0) (h : DX6_minutesFor I g0 a1 = some r) : am_F 2 nX6_minutesFor [.ref g0, .int a1] (TX, I, J, RX) (some (.int r)) (TX, I, J, RX) := by
  unfold DX6_minutesFor at h
  unfold am_F
  unfold dm_b at hg0
  rcases hg0 with rfl | rfl | rfl
  all_goals
    refine am_E.go (n := 1) rfl ?_
    obtain ⟨q1, hq, h⟩ := am_bindI h
    refine am_E.callF rfl (by decide) (axX1_isPlannedBare (by decide) hq) ?_
    refine am_E.brk rfl (fun hp => ?_) (fun hp => ?_)
    · have h := (if_pos hp).symm.trans h
      refine am_E.go (n := 0) rfl ?_
      cases h
      exact am_E.ret rfl ⟨rfl, rfl⟩
    · have h := (if_neg hp).symm.trans h
      refine am_E.go (n := 3) rfl ?_
      obtain ⟨q2, hq, h⟩ := am_bindI h
      refine am_E.callF rfl (by decide) (axX1_plannedAt (by decide) hq) ?_
      obtain ⟨q3, hq, h⟩ := am_bindI h
      refine am_E.callF rfl (by decide) (axX1_aOf (by decide) hq) ?_
      refine am_E.go (n := 1) rfl ?_
      cases h
      exact am_E.ret rfl ⟨rfl, rfl⟩
