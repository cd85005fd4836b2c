/-! THE METHODS AS FUNCTIONS over the memory, and the row that their runs do so: laid by program (wip/whole/decomp.py) -/
def DX0_forget (I : Nat → Nat → Int32) (J : Nat → Nat → Int64) : Option (Int32 × (Nat → Nat → Int32) × (Nat → Nat → Int64)) :=
  some ((0 : Int32), (am_upI I 38 1 (0 : Int32)), J)
set_option maxHeartbeats 4000000 in
set_option maxRecDepth 100000 in
theorem axX0_forget {I : Nat → Nat → Int32} {J : Nat → Nat → Int64} {r : Int32} {I' : Nat → Nat → Int32} {J' : Nat → Nat → Int64} (h : DX0_forget I J = some (r, I', J')) : am_F 0 nX0_forget [.ref 38] (TX, I, J, RX) (none) (TX, I', J', RX) := by
  unfold DX0_forget at h
  unfold am_F
  refine am_E.go (n := 2) rfl ?_
  cases h
  exact am_E.ret rfl ⟨rfl, rfl⟩
def DX0_bodiesRun (I : Nat → Nat → Int32) : Int32 :=
  (I 38 1)
set_option maxHeartbeats 4000000 in
set_option maxRecDepth 100000 in
theorem axX0_bodiesRun {I : Nat → Nat → Int32} {J : Nat → Nat → Int64} {r : Int32} (h : DX0_bodiesRun I = r) : am_F 0 nX0_bodiesRun [.ref 38] (TX, I, J, RX) (some (.int r)) (TX, I, J, RX) := by
  unfold DX0_bodiesRun at h
  unfold am_F
  refine am_E.go (n := 1) rfl ?_
  subst h
  exact am_E.ret rfl ⟨rfl, rfl⟩
def DX0_bodyAt (I : Nat → Nat → Int32) (a0 : Int32) : Option Int32 :=
  if a0 < 0 then
    some ((-1 : Int32))
  else
    if (I 38 1) ≤ a0 then
      some ((-1 : Int32))
    else
      if a0 < (20 : Int32) then
        if ¬ (a0 < 0 ∨ 20 ≤ (a0).toNatClampNeg) then
          some ((I 39 (a0).toNatClampNeg))
        else none
      else
        some ((-1 : Int32))
set_option maxHeartbeats 4000000 in
set_option maxRecDepth 100000 in
theorem axX0_bodyAt {I : Nat → Nat → Int32} {J : Nat → Nat → Int64} {a0 : Int32} {r : Int32} (h : DX0_bodyAt I a0 = some r) : am_F 0 nX0_bodyAt [.ref 38, .int a0] (TX, I, J, RX) (some (.int r)) (TX, I, J, RX) := by
  unfold DX0_bodyAt at h
  unfold am_F
  refine am_E.go (n := 0) rfl ?_
  refine am_E.brk rfl (fun hp => ?_) (fun hp => ?_)
  · have h := (if_pos hp).symm.trans h
    refine am_E.go (n := 1) rfl ?_
    cases h
    exact am_E.ret rfl ⟨rfl, rfl⟩
  · have h := (if_neg hp).symm.trans h
    refine am_E.go (n := 2) rfl ?_
    refine am_E.brk rfl (fun hp => ?_) (fun hp => ?_)
    · have h := (if_pos hp).symm.trans h
      refine am_E.go (n := 1) rfl ?_
      cases h
      exact am_E.ret rfl ⟨rfl, rfl⟩
    · have h := (if_neg hp).symm.trans h
      refine am_E.go (n := 3) rfl ?_
      refine am_E.brk rfl (fun hp => ?_) (fun hp => ?_)
      · have h := (if_pos hp).symm.trans h
        refine am_E.go (n := 2) rfl ?_
        obtain ⟨hg, h⟩ := am_ifI h
        refine am_E.grd rfl hg ?_
        cases h
        exact am_E.ret rfl ⟨rfl, rfl⟩
      · have h := (if_neg hp).symm.trans h
        refine am_E.go (n := 1) rfl ?_
        cases h
        exact am_E.ret rfl ⟨rfl, rfl⟩
def DX1_isStuff (I : Nat → Nat → Int32) (o : Nat) (a0 : Int32) : Int32 :=
  if a0 < 0 then
    (0 : Int32)
  else
    if (I o 3) ≤ a0 then
      (0 : Int32)
    else
      if (8 : Int32) ≤ a0 then
        (0 : Int32)
      else
        (1 : Int32)
set_option maxHeartbeats 4000000 in
set_option maxRecDepth 100000 in
theorem axX1_isStuff {I : Nat → Nat → Int32} {J : Nat → Nat → Int64} {o : Nat} {a0 : Int32} {r : Int32} (ho : dm_b o) (h : DX1_isStuff I o a0 = r) : am_F 0 nX1_isStuff [.ref o, .int a0] (TX, I, J, RX) (some (.int r)) (TX, I, J, RX) := by
  unfold DX1_isStuff at h
  unfold am_F
  unfold dm_b at ho
  rcases ho with rfl | rfl | rfl
  all_goals
    refine am_E.go (n := 0) rfl ?_
    refine am_E.brk rfl (fun hp => ?_) (fun hp => ?_)
    · have h := (if_pos hp).symm.trans h
      refine am_E.go (n := 0) rfl ?_
      subst h
      first | exact am_E.ret rfl ⟨rfl, rfl⟩ | exact am_E.retG rfl (by decide) ⟨rfl, rfl⟩
    · have h := (if_neg hp).symm.trans h
      refine am_E.go (n := 2) rfl ?_
      refine am_E.brk rfl (fun hp => ?_) (fun hp => ?_)
      · have h := (if_pos hp).symm.trans h
        refine am_E.go (n := 0) rfl ?_
        subst h
        first | exact am_E.ret rfl ⟨rfl, rfl⟩ | exact am_E.retG rfl (by decide) ⟨rfl, rfl⟩
      · have h := (if_neg hp).symm.trans h
        refine am_E.go (n := 1) rfl ?_
        refine am_E.brk rfl (fun hp => ?_) (fun hp => ?_)
        · have h := (if_pos hp).symm.trans h
          refine am_E.go (n := 0) rfl ?_
          subst h
          first | exact am_E.ret rfl ⟨rfl, rfl⟩ | exact am_E.retG rfl (by decide) ⟨rfl, rfl⟩
        · have h := (if_neg hp).symm.trans h
          refine am_E.go (n := 1) rfl ?_
          subst h
          first | exact am_E.ret rfl ⟨rfl, rfl⟩ | exact am_E.retG rfl (by decide) ⟨rfl, rfl⟩
def DX1_kindOf (I : Nat → Nat → Int32) (o : Nat) (a0 : Int32) : Option Int32 :=
  if (DX1_isStuff I o a0) = 0 then
    some ((-1 : Int32))
  else
    if ¬ (a0 < 0 ∨ 8 ≤ (a0).toNatClampNeg) then
      some ((I (o + 1) (a0).toNatClampNeg))
    else none
set_option maxHeartbeats 4000000 in
set_option maxRecDepth 100000 in
theorem axX1_kindOf {I : Nat → Nat → Int32} {J : Nat → Nat → Int64} {o : Nat} {a0 : Int32} {r : Int32} (ho : dm_b o) (h : DX1_kindOf I o a0 = some r) : am_F 1 nX1_kindOf [.ref o, .int a0] (TX, I, J, RX) (some (.int r)) (TX, I, J, RX) := by
  unfold DX1_kindOf at h
  unfold am_F
  unfold dm_b at ho
  rcases ho with rfl | rfl | rfl
  all_goals
    refine am_E.go (n := 1) rfl ?_
    refine am_E.callF rfl (by decide) (axX1_isStuff (by decide) rfl) ?_
    refine am_E.brk rfl (fun hp => ?_) (fun hp => ?_)
    · have h := (if_pos hp).symm.trans h
      refine am_E.go (n := 0) rfl ?_
      cases h
      exact am_E.ret rfl ⟨rfl, rfl⟩
    · have h := (if_neg hp).symm.trans h
      refine am_E.go (n := 2) rfl ?_
      obtain ⟨hg, h⟩ := am_ifI h
      refine am_E.grd rfl hg ?_
      refine am_E.go (n := 0) rfl ?_
      cases h
      exact am_E.ret rfl ⟨rfl, rfl⟩
def DX1_aOf (I : Nat → Nat → Int32) (o : Nat) (a0 : Int32) : Option Int32 :=
  if (DX1_isStuff I o a0) = 0 then
    some ((0 : Int32))
  else
    if ¬ (a0 < 0 ∨ 8 ≤ (a0).toNatClampNeg) then
      some ((I (o + 3) (a0).toNatClampNeg))
    else none
set_option maxHeartbeats 4000000 in
set_option maxRecDepth 100000 in
theorem axX1_aOf {I : Nat → Nat → Int32} {J : Nat → Nat → Int64} {o : Nat} {a0 : Int32} {r : Int32} (ho : dm_b o) (h : DX1_aOf I o a0 = some r) : am_F 1 nX1_aOf [.ref o, .int a0] (TX, I, J, RX) (some (.int r)) (TX, I, J, RX) := by
  unfold DX1_aOf at h
  unfold am_F
  unfold dm_b at ho
  rcases ho with rfl | rfl | rfl
  all_goals
    refine am_E.go (n := 1) rfl ?_
    refine am_E.callF rfl (by decide) (axX1_isStuff (by decide) rfl) ?_
    refine am_E.brk rfl (fun hp => ?_) (fun hp => ?_)
    · have h := (if_pos hp).symm.trans h
      refine am_E.go (n := 0) rfl ?_
      cases h
      exact am_E.ret rfl ⟨rfl, rfl⟩
    · have h := (if_neg hp).symm.trans h
      refine am_E.go (n := 2) rfl ?_
      obtain ⟨hg, h⟩ := am_ifI h
      refine am_E.grd rfl hg ?_
      refine am_E.go (n := 0) rfl ?_
      cases h
      exact am_E.ret rfl ⟨rfl, rfl⟩
def DX0_ownBody (I : Nat → Nat → Int32) (a0 : Int32) (a1 : Int32) : Option Int32 :=
  if a1 < 0 then
    some ((0 : Int32))
  else
    if ((a0 * (7 : Int32)) + a1) < 0 then
      some ((0 : Int32))
    else
      if ((a0 * (7 : Int32)) + a1) < (21 : Int32) then
        if ¬ (((a0 * (7 : Int32)) + a1) < 0 ∨ 21 ≤ (((a0 * (7 : Int32)) + a1)).toNatClampNeg) then
          some ((am_nthI am_bodies (((a0 * (7 : Int32)) + a1)).toNatClampNeg))
        else none
      else
        some ((0 : Int32))
set_option maxHeartbeats 4000000 in
set_option maxRecDepth 100000 in
theorem axX0_ownBody {I : Nat → Nat → Int32} {J : Nat → Nat → Int64} {a0 : Int32} {a1 : Int32} {r : Int32} (h : DX0_ownBody I a0 a1 = some r) : am_F 0 nX0_ownBody [.int a0, .int a1, .retAddr 0] (TX, I, J, RX) (some (.int r)) (TX, I, J, RX) := by
  unfold DX0_ownBody at h
  unfold am_F
  refine am_E.go (n := 6) rfl ?_
  refine am_E.brk rfl (fun hp => ?_) (fun hp => ?_)
  · have h := (if_pos hp).symm.trans h
    refine am_E.go (n := 1) rfl ?_
    cases h
    exact am_E.ret rfl ⟨rfl, rfl⟩
  · have h := (if_neg hp).symm.trans h
    refine am_E.go (n := 0) rfl ?_
    refine am_E.brk rfl (fun hp => ?_) (fun hp => ?_)
    · have h := (if_pos hp).symm.trans h
      refine am_E.go (n := 1) rfl ?_
      cases h
      exact am_E.ret rfl ⟨rfl, rfl⟩
    · have h := (if_neg hp).symm.trans h
      refine am_E.go (n := 2) rfl ?_
      refine am_E.brk rfl (fun hp => ?_) (fun hp => ?_)
      · have h := (if_pos hp).symm.trans h
        refine am_E.go (n := 1) rfl ?_
        obtain ⟨hg, h⟩ := am_ifI h
        refine am_E.grd rfl hg ?_
        cases h
        exact am_E.ret rfl ⟨rfl, rfl⟩
      · have h := (if_neg hp).symm.trans h
        refine am_E.go (n := 1) rfl ?_
        cases h
        exact am_E.ret rfl ⟨rfl, rfl⟩
def DX2_above (I : Nat → Nat → Int32) (a0 : Int32) : Option Int32 :=
  if a0 < 0 then
    some ((-1 : Int32))
  else
    if a0 < (7 : Int32) then
      if ¬ (a0 < 0 ∨ 7 ≤ (a0).toNatClampNeg) then
        some ((am_nthI am_above (a0).toNatClampNeg))
      else none
    else
      some ((-1 : Int32))
set_option maxHeartbeats 4000000 in
set_option maxRecDepth 100000 in
theorem axX2_above {I : Nat → Nat → Int32} {J : Nat → Nat → Int64} {a0 : Int32} {r : Int32} (h : DX2_above I a0 = some r) : am_F 0 nX2_above [.int a0] (TX, I, J, RX) (some (.int r)) (TX, I, J, RX) := by
  unfold DX2_above at h
  unfold am_F
  refine am_E.go (n := 0) rfl ?_
  refine am_E.brk rfl (fun hp => ?_) (fun hp => ?_)
  · have h := (if_pos hp).symm.trans h
    refine am_E.go (n := 1) rfl ?_
    cases h
    exact am_E.ret rfl ⟨rfl, rfl⟩
  · have h := (if_neg hp).symm.trans h
    refine am_E.go (n := 2) rfl ?_
    refine am_E.brk rfl (fun hp => ?_) (fun hp => ?_)
    · have h := (if_pos hp).symm.trans h
      refine am_E.go (n := 1) rfl ?_
      obtain ⟨hg, h⟩ := am_ifI h
      refine am_E.grd rfl hg ?_
      cases h
      exact am_E.ret rfl ⟨rfl, rfl⟩
    · have h := (if_neg hp).symm.trans h
      refine am_E.go (n := 1) rfl ?_
      cases h
      exact am_E.ret rfl ⟨rfl, rfl⟩
def LX0_kindWithBody : Nat → (Nat → Nat → Int32) → Int32 → Int32 → Int32 → Option Int32
  | 0, _, _, _, _ => none
  | n + 1, I, x0, x2, x3 =>
    if (7 : Int32) ≤ x3 then
      some x2
    else
      if x2 = (-1 : Int32) then
        some x2
      else
        (DX0_ownBody I x0 x2).bind fun q3 =>
        if ¬ q3 = 0 then
          some x2
        else
          (DX2_above I x2).bind fun q4 =>
          LX0_kindWithBody n I x0 q4 ((x3 + (1 : Int32)))
def DX0_kindWithBody (I : Nat → Nat → Int32) (a0 : Int32) (a1 : Int32) : Option Int32 :=
  LX0_kindWithBody am_FU I a0 a1 ((0 : Int32))
set_option maxHeartbeats 4000000 in
set_option maxRecDepth 100000 in
theorem alX0_kindWithBody : ∀ (n : Nat), ∀ {I : Nat → Nat → Int32} {J : Nat → Nat → Int64} {x0 : Int32} {x2 : Int32} {x3 : Int32} {r : Int32}, LX0_kindWithBody n I x0 x2 x3 = some r → am_E 1 nX0_kindWithBody (4, [.int x0, .retAddr 0, .int x2, .int x3], [], (TX, I, J, RX)) (fun v M' => v = some (.int r) ∧ M' = (TX, I, J, RX)) := by
  intro n
  induction n with
  | zero => intros; contradiction
  | succ n ih =>
    intro I J x0 x2 x3 r h
    simp only [LX0_kindWithBody] at h
    refine am_E.go (n := 1) rfl ?_
    refine am_E.brk rfl (fun hp => ?_) (fun hp => ?_)
    · have h := (if_pos hp).symm.trans h
      refine am_E.go (n := 0) rfl ?_
      cases h
      exact am_E.ret rfl ⟨rfl, rfl⟩
    · have h := (if_neg hp).symm.trans h
      refine am_E.go (n := 1) rfl ?_
      refine am_E.brk rfl (fun hp => ?_) (fun hp => ?_)
      · have h := (if_pos hp).symm.trans h
        refine am_E.go (n := 0) rfl ?_
        cases h
        exact am_E.ret rfl ⟨rfl, rfl⟩
      · have h := (if_neg hp).symm.trans h
        refine am_E.go (n := 1) rfl ?_
        obtain ⟨q3, hq, h⟩ := am_bindI h
        refine am_E.callF rfl (by decide) (axX0_ownBody hq) ?_
        refine am_E.brk rfl (fun hp => ?_) (fun hp => ?_)
        · have h := (if_pos hp).symm.trans h
          refine am_E.go (n := 0) rfl ?_
          cases h
          exact am_E.ret rfl ⟨rfl, rfl⟩
        · have h := (if_neg hp).symm.trans h
          refine am_E.go (n := 0) rfl ?_
          obtain ⟨q4, hq, h⟩ := am_bindI h
          refine am_E.callF rfl (by decide) (axX2_above hq) ?_
          refine am_E.go (n := 2) rfl ?_
          exact ih h
set_option maxHeartbeats 4000000 in
set_option maxRecDepth 100000 in
theorem axX0_kindWithBody {I : Nat → Nat → Int32} {J : Nat → Nat → Int64} {a0 : Int32} {a1 : Int32} {r : Int32} (h : DX0_kindWithBody I a0 a1 = some r) : am_F 1 nX0_kindWithBody [.int a0, .int a1, .retAddr 0, .retAddr 0] (TX, I, J, RX) (some (.int r)) (TX, I, J, RX) := by
  unfold DX0_kindWithBody at h
  unfold am_F
  refine am_E.go (n := 3) rfl ?_
  refine am_E.less (ls0 := [_, .retAddr 0, _, _]) ?_ ⟨Or.inl rfl, Or.inr ⟨rfl, rfl⟩, Or.inl rfl, Or.inl rfl, trivial⟩
  exact (alX0_kindWithBody am_FU) h
def DX0_noteBegun (I : Nat → Nat → Int32) (J : Nat → Nat → Int64) (a0 : Int32) : Option (Int32 × (Nat → Nat → Int32) × (Nat → Nat → Int64)) :=
  if (I 38 1) < 0 then
    some ((0 : Int32), (am_upI I 38 1 ((I 38 1) + (1 : Int32))), J)
  else
    if (20 : Int32) ≤ (I 38 1) then
      some ((0 : Int32), (am_upI I 38 1 ((I 38 1) + (1 : Int32))), J)
    else
      if ¬ ((I 38 1) < 0 ∨ 20 ≤ ((I 38 1)).toNatClampNeg) then
        (some (am_upI ((am_upI I 39 ((I 38 1)).toNatClampNeg a0)) 38 1 ((((am_upI I 39 ((I 38 1)).toNatClampNeg a0)) 38 1) + (1 : Int32)))).bind fun I1 =>
        some ((0 : Int32), I1, J)
      else none
set_option maxHeartbeats 4000000 in
set_option maxRecDepth 100000 in
theorem axX0_noteBegun {I : Nat → Nat → Int32} {J : Nat → Nat → Int64} {a0 : Int32} {r : Int32} {I' : Nat → Nat → Int32} {J' : Nat → Nat → Int64} (h : DX0_noteBegun I J a0 = some (r, I', J')) : am_F 0 nX0_noteBegun [.ref 38, .int a0] (TX, I, J, RX) (none) (TX, I', J', RX) := by
  unfold DX0_noteBegun at h
  unfold am_F
  refine am_E.go (n := 1) rfl ?_
  refine am_E.brk rfl (fun hp => ?_) (fun hp => ?_)
  · have h := (if_pos hp).symm.trans h
    refine am_E.go (n := 5) rfl ?_
    cases h
    exact am_E.ret rfl ⟨rfl, rfl⟩
  · have h := (if_neg hp).symm.trans h
    refine am_E.go (n := 4) rfl ?_
    refine am_E.brk rfl (fun hp => ?_) (fun hp => ?_)
    · have h := (if_pos hp).symm.trans h
      refine am_E.go (n := 5) rfl ?_
      cases h
      exact am_E.ret rfl ⟨rfl, rfl⟩
    · have h := (if_neg hp).symm.trans h
      refine am_E.go (n := 4) rfl ?_
      obtain ⟨hg, h⟩ := am_ifI h
      refine am_E.grd rfl hg ?_
      refine am_E.go (n := 5) rfl ?_
      obtain ⟨I1, hI, h⟩ := am_bindI h
      obtain rfl := Option.some.inj hI
      cases h
      exact am_E.ret rfl ⟨rfl, rfl⟩
def LX0_runBody : Nat → (Nat → Nat → Int32) → (Nat → Nat → Int64) → Int32 → Int32 → Int32 → Int32 → Option (Int32 × (Nat → Nat → Int32) × (Nat → Nat → Int64))
  | 0, _, _, _, _, _, _ => none
  | n + 1, I, J, a1, a2, a3, a4 =>
    if a4 ≤ (40 : Int32) then
      (DX0_kindWithBody I a1 a2).bind fun q1 =>
      (DX0_ownBody I a1 q1).bind fun q2 =>
      (DX2_above I q1).bind fun q3 =>
      (DX0_noteBegun I J q2).bind fun q4 =>
      if q2 = 10 then
        (some ((a3 + (q4.2.1 38 3)), q4.2.1, q4.2.2))
      else if q2 = 11 then
        ((LX0_runBody n q4.2.1 q4.2.2 ((0 : Int32)) ((I 38 2)) a3 ((a4 + (1 : Int32)))).bind fun q5 =>
        some ((q5.1 * (2 : Int32)), q5.2.1, q5.2.2))
      else if q2 = 12 then
        ((LX0_runBody n q4.2.1 q4.2.2 ((1 : Int32)) ((I 38 2)) a3 ((a4 + (1 : Int32)))).bind fun q6 =>
        (LX0_runBody n q6.2.1 q6.2.2 ((0 : Int32)) ((I 38 2)) ((a3 - (q6.2.1 38 4))) ((a4 + (1 : Int32)))).bind fun q7 =>
        some ((q6.1 ^^^ q7.1), q7.2.1, q7.2.2))
      else if q2 = 20 then
        ((LX0_runBody n q4.2.1 q4.2.2 ((0 : Int32)) q3 a3 ((a4 + (1 : Int32)))).bind fun q8 =>
        some ((q8.1 + (q8.2.1 38 4)), q8.2.1, q8.2.2))
      else if q2 = 30 then
        ((LX0_runBody n q4.2.1 q4.2.2 ((1 : Int32)) q3 a3 ((a4 + (1 : Int32)))).bind fun q9 =>
        some ((q9.1 * (3 : Int32)), q9.2.1, q9.2.2))
      else if q2 = 40 then
        ((LX0_runBody n q4.2.1 q4.2.2 ((1 : Int32)) q3 ((a3 + (1 : Int32))) ((a4 + (1 : Int32)))).bind fun q10 =>
        some (q10.1, q10.2.1, q10.2.2))
      else if q2 = 50 then
        ((LX0_runBody n q4.2.1 q4.2.2 ((2 : Int32)) q3 a3 ((a4 + (1 : Int32)))).bind fun q11 =>
        some ((-q11.1), q11.2.1, q11.2.2))
      else if q2 = 51 then
        ((LX0_runBody n q4.2.1 q4.2.2 ((0 : Int32)) q3 a3 ((a4 + (1 : Int32)))).bind fun q12 =>
        some ((q12.1 - (q12.2.1 38 3)), q12.2.1, q12.2.2))
      else if q2 = 60 then
        ((LX0_runBody n q4.2.1 q4.2.2 ((2 : Int32)) q3 a3 ((a4 + (1 : Int32)))).bind fun q13 =>
        some ((q13.1 ^^^ (5 : Int32)), q13.2.1, q13.2.2))
      else if q2 = 70 then
        ((LX0_runBody n q4.2.1 q4.2.2 ((0 : Int32)) q3 a3 ((a4 + (1 : Int32)))).bind fun q14 =>
        some ((q14.1 * (2 : Int32)), q14.2.1, q14.2.2))
      else if q2 = 71 then
        ((LX0_runBody n q4.2.1 q4.2.2 ((1 : Int32)) q3 ((a3 - (q4.2.1 38 4))) ((a4 + (1 : Int32)))).bind fun q15 =>
        some (q15.1, q15.2.1, q15.2.2))
      else some ((0 : Int32), q4.2.1, q4.2.2)
    else
      some ((0 : Int32), I, J)
set_option maxHeartbeats 4000000 in
set_option maxRecDepth 100000 in
theorem alX0_runBody : ∀ (n : Nat) {I : Nat → Nat → Int32} {J : Nat → Nat → Int64} {a1 : Int32} {a2 : Int32} {a3 : Int32} {a4 : Int32} {r : Int32} {I' : Nat → Nat → Int32} {J' : Nat → Nat → Int64}, LX0_runBody n I J a1 a2 a3 a4 = some (r, I', J') → am_F (2 + n) nX0_runBody [.ref 38, .int a1, .int a2, .int a3, .int a4, .retAddr 0, .retAddr 0, .retAddr 0, .retAddr 0, .retAddr 0, .retAddr 0] (TX, I, J, RX) (some (.int r)) (TX, I', J', RX) := by
  intro n
  induction n with
  | zero => intros; contradiction
  | succ n ih =>
    intro I J a1 a2 a3 a4 r I' J' h
    simp only [LX0_runBody] at h
    unfold am_F
    refine am_E.go (n := 0) rfl ?_
    refine am_E.step rfl ?_
    refine am_E.go (n := 1) rfl ?_
    refine am_E.brk rfl (fun hp => ?_) (fun hp => ?_)
    · have h := (if_pos hp).symm.trans h
      refine am_E.go (n := 1) rfl ?_
      obtain ⟨q1, hq, h⟩ := am_bindI h
      refine am_E.callF rfl (by omega) (axX0_kindWithBody hq) ?_
      refine am_E.go (n := 2) rfl ?_
      obtain ⟨q2, hq, h⟩ := am_bindI h
      refine am_E.callF rfl (by omega) (axX0_ownBody hq) ?_
      refine am_E.go (n := 1) rfl ?_
      obtain ⟨q3, hq, h⟩ := am_bindI h
      refine am_E.callF rfl (by omega) (axX2_above hq) ?_
      refine am_E.go (n := 9) rfl ?_
      obtain ⟨q4, hq, h⟩ := am_bindI h
      obtain ⟨q4_1, q4_2, q4_3⟩ := q4
      refine am_E.callF rfl (by omega) (axX0_noteBegun hq) ?_
      refine am_E.go (n := 0) rfl ?_
      refine am_E.sw rfl ?_
      refine ⟨fun hp => ?_, fun hp => ?_⟩
      · have h := (if_pos hp).symm.trans h
        refine am_E.go (n := 3) rfl ?_
        cases h
        exact am_E.ret rfl ⟨rfl, rfl⟩
      have h := (if_neg hp).symm.trans h
      refine ⟨fun hp => ?_, fun hp => ?_⟩
      · have h := (if_pos hp).symm.trans h
        refine am_E.go (n := 4) rfl ?_
        obtain ⟨q5, hq, h⟩ := am_bindI h
        obtain ⟨q5_1, q5_2, q5_3⟩ := q5
        refine am_E.callF rfl (by omega) (ih hq) ?_
        refine am_E.go (n := 1) rfl ?_
        cases h
        exact am_E.ret rfl ⟨rfl, rfl⟩
      have h := (if_neg hp).symm.trans h
      refine ⟨fun hp => ?_, fun hp => ?_⟩
      · have h := (if_pos hp).symm.trans h
        refine am_E.go (n := 4) rfl ?_
        obtain ⟨q6, hq, h⟩ := am_bindI h
        obtain ⟨q6_1, q6_2, q6_3⟩ := q6
        refine am_E.callF rfl (by omega) (ih hq) ?_
        refine am_E.go (n := 9) rfl ?_
        obtain ⟨q7, hq, h⟩ := am_bindI h
        obtain ⟨q7_1, q7_2, q7_3⟩ := q7
        refine am_E.callF rfl (by omega) (ih hq) ?_
        refine am_E.go (n := 0) rfl ?_
        cases h
        exact am_E.ret rfl ⟨rfl, rfl⟩
      have h := (if_neg hp).symm.trans h
      refine ⟨fun hp => ?_, fun hp => ?_⟩
      · have h := (if_pos hp).symm.trans h
        refine am_E.go (n := 4) rfl ?_
        obtain ⟨q8, hq, h⟩ := am_bindI h
        obtain ⟨q8_1, q8_2, q8_3⟩ := q8
        refine am_E.callF rfl (by omega) (ih hq) ?_
        refine am_E.go (n := 2) rfl ?_
        cases h
        exact am_E.ret rfl ⟨rfl, rfl⟩
      have h := (if_neg hp).symm.trans h
      refine ⟨fun hp => ?_, fun hp => ?_⟩
      · have h := (if_pos hp).symm.trans h
        refine am_E.go (n := 4) rfl ?_
        obtain ⟨q9, hq, h⟩ := am_bindI h
        obtain ⟨q9_1, q9_2, q9_3⟩ := q9
        refine am_E.callF rfl (by omega) (ih hq) ?_
        refine am_E.go (n := 1) rfl ?_
        cases h
        exact am_E.ret rfl ⟨rfl, rfl⟩
      have h := (if_neg hp).symm.trans h
      refine ⟨fun hp => ?_, fun hp => ?_⟩
      · have h := (if_pos hp).symm.trans h
        refine am_E.go (n := 6) rfl ?_
        obtain ⟨q10, hq, h⟩ := am_bindI h
        obtain ⟨q10_1, q10_2, q10_3⟩ := q10
        refine am_E.callF rfl (by omega) (ih hq) ?_
        cases h
        exact am_E.ret rfl ⟨rfl, rfl⟩
      have h := (if_neg hp).symm.trans h
      refine ⟨fun hp => ?_, fun hp => ?_⟩
      · have h := (if_pos hp).symm.trans h
        refine am_E.go (n := 4) rfl ?_
        obtain ⟨q11, hq, h⟩ := am_bindI h
        obtain ⟨q11_1, q11_2, q11_3⟩ := q11
        refine am_E.callF rfl (by omega) (ih hq) ?_
        refine am_E.go (n := 0) rfl ?_
        cases h
        exact am_E.ret rfl ⟨rfl, rfl⟩
      have h := (if_neg hp).symm.trans h
      refine ⟨fun hp => ?_, fun hp => ?_⟩
      · have h := (if_pos hp).symm.trans h
        refine am_E.go (n := 4) rfl ?_
        obtain ⟨q12, hq, h⟩ := am_bindI h
        obtain ⟨q12_1, q12_2, q12_3⟩ := q12
        refine am_E.callF rfl (by omega) (ih hq) ?_
        refine am_E.go (n := 2) rfl ?_
        cases h
        exact am_E.ret rfl ⟨rfl, rfl⟩
      have h := (if_neg hp).symm.trans h
      refine ⟨fun hp => ?_, fun hp => ?_⟩
      · have h := (if_pos hp).symm.trans h
        refine am_E.go (n := 4) rfl ?_
        obtain ⟨q13, hq, h⟩ := am_bindI h
        obtain ⟨q13_1, q13_2, q13_3⟩ := q13
        refine am_E.callF rfl (by omega) (ih hq) ?_
        refine am_E.go (n := 1) rfl ?_
        cases h
        exact am_E.ret rfl ⟨rfl, rfl⟩
      have h := (if_neg hp).symm.trans h
      refine ⟨fun hp => ?_, fun hp => ?_⟩
      · have h := (if_pos hp).symm.trans h
        refine am_E.go (n := 4) rfl ?_
        obtain ⟨q14, hq, h⟩ := am_bindI h
        obtain ⟨q14_1, q14_2, q14_3⟩ := q14
        refine am_E.callF rfl (by omega) (ih hq) ?_
        refine am_E.go (n := 1) rfl ?_
        cases h
        exact am_E.ret rfl ⟨rfl, rfl⟩
      have h := (if_neg hp).symm.trans h
      refine ⟨fun hp => ?_, fun hp => ?_⟩
      · have h := (if_pos hp).symm.trans h
        refine am_E.go (n := 7) rfl ?_
        obtain ⟨q15, hq, h⟩ := am_bindI h
        obtain ⟨q15_1, q15_2, q15_3⟩ := q15
        refine am_E.callF rfl (by omega) (ih hq) ?_
        cases h
        exact am_E.ret rfl ⟨rfl, rfl⟩
      have h := (if_neg hp).symm.trans h
      refine am_E.go (n := 0) rfl ?_
      cases h
      exact am_E.ret rfl ⟨rfl, rfl⟩
    · have h := (if_neg hp).symm.trans h
      refine am_E.go (n := 0) rfl ?_
      cases h
      exact am_E.ret rfl ⟨rfl, rfl⟩
def DX0_runBody (I : Nat → Nat → Int32) (J : Nat → Nat → Int64) (a1 : Int32) (a2 : Int32) (a3 : Int32) (a4 : Int32) : Option (Int32 × (Nat → Nat → Int32) × (Nat → Nat → Int64)) := LX0_runBody 45 I J a1 a2 a3 a4
theorem axX0_runBody {I : Nat → Nat → Int32} {J : Nat → Nat → Int64} {a1 : Int32} {a2 : Int32} {a3 : Int32} {a4 : Int32} {r : Int32} {I' : Nat → Nat → Int32} {J' : Nat → Nat → Int64} (h : DX0_runBody I J a1 a2 a3 a4 = some (r, I', J')) : am_F 47 nX0_runBody [.ref 38, .int a1, .int a2, .int a3, .int a4, .retAddr 0, .retAddr 0, .retAddr 0, .retAddr 0, .retAddr 0, .retAddr 0] (TX, I, J, RX) (some (.int r)) (TX, I', J', RX) := by
  exact alX0_runBody 45 h
def DX0_perform (I : Nat → Nat → Int32) (J : Nat → Nat → Int64) (g0 : Nat) (a1 : Int32) (a2 : Int32) (a3 : Int32) : Option (Int32 × (Nat → Nat → Int32) × (Nat → Nat → Int64)) :=
  (DX0_forget I J).bind fun q1 =>
  (DX1_kindOf q1.2.1 g0 a1).bind fun q2 =>
  (DX1_aOf (am_upI ((am_upI q1.2.1 38 2 q2)) 38 3 a1) g0 a1).bind fun q3 =>
  (DX0_runBody (am_upI ((am_upI ((am_upI q1.2.1 38 2 q2)) 38 3 a1)) 38 4 q3) q1.2.2 a2 ((((am_upI ((am_upI ((am_upI q1.2.1 38 2 q2)) 38 3 a1)) 38 4 q3)) 38 2)) a3 ((0 : Int32))).bind fun q4 =>
  some (q4.1, q4.2.1, q4.2.2)
set_option maxHeartbeats 4000000 in
set_option maxRecDepth 100000 in
theorem axX0_perform {I : Nat → Nat → Int32} {J : Nat → Nat → Int64} {g0 : Nat} {a1 : Int32} {a2 : Int32} {a3 : Int32} {r : Int32} {I' : Nat → Nat → Int32} {J' : Nat → Nat → Int64} (hg0 : dm_b g0) (h : DX0_perform I J g0 a1 a2 a3 = some (r, I', J')) : am_F 48 nX0_perform [.ref 38, .ref g0, .int a1, .int a2, .int a3] (TX, I, J, RX) (some (.int r)) (TX, I', J', RX) := by
  unfold DX0_perform at h
  unfold am_F
  unfold dm_b at hg0
  rcases hg0 with rfl | rfl | rfl
  all_goals
    refine am_E.go (n := 0) rfl ?_
    obtain ⟨q1, hq, h⟩ := am_bindI h
    obtain ⟨q1_1, q1_2, q1_3⟩ := q1
    refine am_E.callF rfl (by decide) (axX0_forget hq) ?_
    refine am_E.go (n := 2) rfl ?_
    obtain ⟨q2, hq, h⟩ := am_bindI h
    refine am_E.callF rfl (by decide) (axX1_kindOf (by decide) hq) ?_
    refine am_E.go (n := 6) rfl ?_
    obtain ⟨q3, hq, h⟩ := am_bindI h
    refine am_E.callF rfl (by decide) (axX1_aOf (by decide) hq) ?_
    refine am_E.go (n := 6) rfl ?_
    obtain ⟨q4, hq, h⟩ := am_bindI h
    obtain ⟨q4_1, q4_2, q4_3⟩ := q4
    refine am_E.callF rfl (by decide) (axX0_runBody hq) ?_
    cases h
    exact am_E.ret rfl ⟨rfl, rfl⟩
def DX1_becomeLike (I : Nat → Nat → Int32) (J : Nat → Nat → Int64) (o : Nat) (g0 : Nat) : Option (Int32 × (Nat → Nat → Int32) × (Nat → Nat → Int64)) :=
  if (¬ (0 : Int32) < 0 ∧ ¬ (0 : Int32) < 0 ∧ ¬ (8 : Int32) < 0) ∧ ((0 : Int32)).toNatClampNeg + ((8 : Int32)).toNatClampNeg ≤ 8 ∧ ((0 : Int32)).toNatClampNeg + ((8 : Int32)).toNatClampNeg ≤ 8 then
    (some (am_cpI I (g0 + 1) (o + 1) ((0 : Int32)).toNatClampNeg ((0 : Int32)).toNatClampNeg ((8 : Int32)).toNatClampNeg)).bind fun I1 =>
    if (¬ (0 : Int32) < 0 ∧ ¬ (0 : Int32) < 0 ∧ ¬ (8 : Int32) < 0) ∧ ((0 : Int32)).toNatClampNeg + ((8 : Int32)).toNatClampNeg ≤ 8 ∧ ((0 : Int32)).toNatClampNeg + ((8 : Int32)).toNatClampNeg ≤ 8 then
      (some (am_cpI I1 (g0 + 2) (o + 2) ((0 : Int32)).toNatClampNeg ((0 : Int32)).toNatClampNeg ((8 : Int32)).toNatClampNeg)).bind fun I2 =>
      if (¬ (0 : Int32) < 0 ∧ ¬ (0 : Int32) < 0 ∧ ¬ (8 : Int32) < 0) ∧ ((0 : Int32)).toNatClampNeg + ((8 : Int32)).toNatClampNeg ≤ 8 ∧ ((0 : Int32)).toNatClampNeg + ((8 : Int32)).toNatClampNeg ≤ 8 then
        (some (am_cpI I2 (g0 + 3) (o + 3) ((0 : Int32)).toNatClampNeg ((0 : Int32)).toNatClampNeg ((8 : Int32)).toNatClampNeg)).bind fun I3 =>
        if (¬ (0 : Int32) < 0 ∧ ¬ (0 : Int32) < 0 ∧ ¬ (24 : Int32) < 0) ∧ ((0 : Int32)).toNatClampNeg + ((24 : Int32)).toNatClampNeg ≤ 24 ∧ ((0 : Int32)).toNatClampNeg + ((24 : Int32)).toNatClampNeg ≤ 24 then
          (some (am_cpI ((am_upI I3 o 3 (I3 g0 3))) (g0 + 4) (o + 4) ((0 : Int32)).toNatClampNeg ((0 : Int32)).toNatClampNeg ((24 : Int32)).toNatClampNeg)).bind fun I4 =>
          if (¬ (0 : Int32) < 0 ∧ ¬ (0 : Int32) < 0 ∧ ¬ (24 : Int32) < 0) ∧ ((0 : Int32)).toNatClampNeg + ((24 : Int32)).toNatClampNeg ≤ 24 ∧ ((0 : Int32)).toNatClampNeg + ((24 : Int32)).toNatClampNeg ≤ 24 then
            (some (am_cpI I4 (g0 + 5) (o + 5) ((0 : Int32)).toNatClampNeg ((0 : Int32)).toNatClampNeg ((24 : Int32)).toNatClampNeg)).bind fun I5 =>
            if (¬ (0 : Int32) < 0 ∧ ¬ (0 : Int32) < 0 ∧ ¬ (24 : Int32) < 0) ∧ ((0 : Int32)).toNatClampNeg + ((24 : Int32)).toNatClampNeg ≤ 24 ∧ ((0 : Int32)).toNatClampNeg + ((24 : Int32)).toNatClampNeg ≤ 24 then
              (some (am_cpI I5 (g0 + 6) (o + 6) ((0 : Int32)).toNatClampNeg ((0 : Int32)).toNatClampNeg ((24 : Int32)).toNatClampNeg)).bind fun I6 =>
              if (¬ (0 : Int32) < 0 ∧ ¬ (0 : Int32) < 0 ∧ ¬ (24 : Int32) < 0) ∧ ((0 : Int32)).toNatClampNeg + ((24 : Int32)).toNatClampNeg ≤ 24 ∧ ((0 : Int32)).toNatClampNeg + ((24 : Int32)).toNatClampNeg ≤ 24 then
                (some (am_cpI I6 (g0 + 7) (o + 7) ((0 : Int32)).toNatClampNeg ((0 : Int32)).toNatClampNeg ((24 : Int32)).toNatClampNeg)).bind fun I7 =>
                if (¬ (0 : Int32) < 0 ∧ ¬ (0 : Int32) < 0 ∧ ¬ (24 : Int32) < 0) ∧ ((0 : Int32)).toNatClampNeg + ((24 : Int32)).toNatClampNeg ≤ 24 ∧ ((0 : Int32)).toNatClampNeg + ((24 : Int32)).toNatClampNeg ≤ 24 then
                  (some (am_cpI I7 (g0 + 8) (o + 8) ((0 : Int32)).toNatClampNeg ((0 : Int32)).toNatClampNeg ((24 : Int32)).toNatClampNeg)).bind fun I8 =>
                  if (¬ (0 : Int32) < 0 ∧ ¬ (0 : Int32) < 0 ∧ ¬ (24 : Int32) < 0) ∧ ((0 : Int32)).toNatClampNeg + ((24 : Int32)).toNatClampNeg ≤ 24 ∧ ((0 : Int32)).toNatClampNeg + ((24 : Int32)).toNatClampNeg ≤ 24 then
                    (some (am_cpI I8 (g0 + 9) (o + 9) ((0 : Int32)).toNatClampNeg ((0 : Int32)).toNatClampNeg ((24 : Int32)).toNatClampNeg)).bind fun I9 =>
                    (some (am_upI ((am_upI ((am_upI I9 o 10 (I9 g0 10))) o 11 (((am_upI I9 o 10 (I9 g0 10))) g0 11))) o 12 (((am_upI ((am_upI I9 o 10 (I9 g0 10))) o 11 (((am_upI I9 o 10 (I9 g0 10))) g0 11))) g0 12))).bind fun I10 =>
                    some ((0 : Int32), (am_upI ((am_upI I10 o 13 (I10 g0 13))) o 14 (((am_upI I10 o 13 (I10 g0 13))) g0 14)), J)
                  else none
                else none
              else none
            else none
          else none
        else none
      else none
    else none
  else none
set_option maxHeartbeats 4000000 in
set_option maxRecDepth 100000 in
theorem axX1_becomeLike {I : Nat → Nat → Int32} {J : Nat → Nat → Int64} {o : Nat} {g0 : Nat} {r : Int32} {I' : Nat → Nat → Int32} {J' : Nat → Nat → Int64} (ho : dm_b o) (hg0 : dm_b g0) (h : DX1_becomeLike I J o g0 = some (r, I', J')) : am_F 0 nX1_becomeLike [.ref o, .ref g0] (TX, I, J, RX) (none) (TX, I', J', RX) := by
  unfold DX1_becomeLike at h
  unfold am_F
  unfold dm_b at ho
  unfold dm_b at hg0
  rcases ho with rfl | rfl | rfl <;> rcases hg0 with rfl | rfl | rfl
  all_goals
    refine am_E.go (n := 6) rfl ?_
    obtain ⟨hg, h⟩ := am_ifI h
    refine am_E.grd rfl hg ?_
    obtain ⟨I1, hI, h⟩ := am_bindI h
    obtain rfl := Option.some.inj hI
    refine am_E.go (n := 6) rfl ?_
    obtain ⟨hg, h⟩ := am_ifI h
    refine am_E.grd rfl hg ?_
    obtain ⟨I2, hI, h⟩ := am_bindI h
    obtain rfl := Option.some.inj hI
    refine am_E.go (n := 6) rfl ?_
    obtain ⟨hg, h⟩ := am_ifI h
    refine am_E.grd rfl hg ?_
    obtain ⟨I3, hI, h⟩ := am_bindI h
    obtain rfl := Option.some.inj hI
    refine am_E.go (n := 10) rfl ?_
    obtain ⟨hg, h⟩ := am_ifI h
    refine am_E.grd rfl hg ?_
    obtain ⟨I4, hI, h⟩ := am_bindI h
    obtain rfl := Option.some.inj hI
    refine am_E.go (n := 6) rfl ?_
    obtain ⟨hg, h⟩ := am_ifI h
    refine am_E.grd rfl hg ?_
    obtain ⟨I5, hI, h⟩ := am_bindI h
    obtain rfl := Option.some.inj hI
    refine am_E.go (n := 6) rfl ?_
    obtain ⟨hg, h⟩ := am_ifI h
    refine am_E.grd rfl hg ?_
    obtain ⟨I6, hI, h⟩ := am_bindI h
    obtain rfl := Option.some.inj hI
    refine am_E.go (n := 6) rfl ?_
    obtain ⟨hg, h⟩ := am_ifI h
    refine am_E.grd rfl hg ?_
    obtain ⟨I7, hI, h⟩ := am_bindI h
    obtain rfl := Option.some.inj hI
    refine am_E.go (n := 6) rfl ?_
    obtain ⟨hg, h⟩ := am_ifI h
    refine am_E.grd rfl hg ?_
    obtain ⟨I8, hI, h⟩ := am_bindI h
    obtain rfl := Option.some.inj hI
    refine am_E.go (n := 6) rfl ?_
    obtain ⟨hg, h⟩ := am_ifI h
    refine am_E.grd rfl hg ?_
    obtain ⟨I9, hI, h⟩ := am_bindI h
    obtain rfl := Option.some.inj hI
    refine am_E.go (n := 19) rfl ?_
    obtain ⟨I10, hI, h⟩ := am_bindI h
    obtain rfl := Option.some.inj hI
    cases h
    exact am_E.ret rfl ⟨rfl, rfl⟩
def DX1_stuffCount (I : Nat → Nat → Int32) (o : Nat) : Int32 :=
  (I o 3)
set_option maxHeartbeats 4000000 in
set_option maxRecDepth 100000 in
theorem axX1_stuffCount {I : Nat → Nat → Int32} {J : Nat → Nat → Int64} {o : Nat} {r : Int32} (ho : dm_b o) (h : DX1_stuffCount I o = r) : am_F 0 nX1_stuffCount [.ref o] (TX, I, J, RX) (some (.int r)) (TX, I, J, RX) := by
  unfold DX1_stuffCount at h
  unfold am_F
  unfold dm_b at ho
  rcases ho with rfl | rfl | rfl
  all_goals
    refine am_E.go (n := 1) rfl ?_
    subst h
    exact am_E.ret rfl ⟨rfl, rfl⟩
def DX1_hasRoom (I : Nat → Nat → Int32) (o : Nat) : Int32 :=
  if (I o 3) < 0 then
    (0 : Int32)
  else
    if (8 : Int32) ≤ (I o 3) then
      (0 : Int32)
    else
      (1 : Int32)
set_option maxHeartbeats 4000000 in
set_option maxRecDepth 100000 in
theorem axX1_hasRoom {I : Nat → Nat → Int32} {J : Nat → Nat → Int64} {o : Nat} {r : Int32} (ho : dm_b o) (h : DX1_hasRoom I o = r) : am_F 0 nX1_hasRoom [.ref o] (TX, I, J, RX) (some (.int r)) (TX, I, J, RX) := by
  unfold DX1_hasRoom at h
  unfold am_F
  unfold dm_b at ho
  rcases ho with rfl | rfl | rfl
  all_goals
    refine am_E.go (n := 1) rfl ?_
    refine am_E.brk rfl (fun hp => ?_) (fun hp => ?_)
    · have h := (if_pos hp).symm.trans h
      refine am_E.go (n := 0) rfl ?_
      subst h
      first | exact am_E.ret rfl ⟨rfl, rfl⟩ | exact am_E.retG rfl (by decide) ⟨rfl, rfl⟩
    · have h := (if_neg hp).symm.trans h
      refine am_E.go (n := 2) rfl ?_
      refine am_E.brk rfl (fun hp => ?_) (fun hp => ?_)
      · have h := (if_pos hp).symm.trans h
        refine am_E.go (n := 0) rfl ?_
        subst h
        first | exact am_E.ret rfl ⟨rfl, rfl⟩ | exact am_E.retG rfl (by decide) ⟨rfl, rfl⟩
      · have h := (if_neg hp).symm.trans h
        refine am_E.go (n := 1) rfl ?_
        subst h
        first | exact am_E.ret rfl ⟨rfl, rfl⟩ | exact am_E.retG rfl (by decide) ⟨rfl, rfl⟩
def DX1_addStuff (I : Nat → Nat → Int32) (J : Nat → Nat → Int64) (o : Nat) (a0 : Int32) (a1 : Int32) (a2 : Int32) : Option (Int32 × (Nat → Nat → Int32) × (Nat → Nat → Int64)) :=
  if ¬ (DX1_hasRoom I o) = 0 then
    if ¬ ((I o 3) < 0 ∨ 8 ≤ ((I o 3)).toNatClampNeg) then
      if ¬ ((((am_upI I (o + 1) ((I o 3)).toNatClampNeg a0)) o 3) < 0 ∨ 8 ≤ ((((am_upI I (o + 1) ((I o 3)).toNatClampNeg a0)) o 3)).toNatClampNeg) then
        (some (am_upI ((am_upI I (o + 1) ((I o 3)).toNatClampNeg a0)) (o + 2) ((((am_upI I (o + 1) ((I o 3)).toNatClampNeg a0)) o 3)).toNatClampNeg a1)).bind fun I1 =>
        if ¬ ((I1 o 3) < 0 ∨ 8 ≤ ((I1 o 3)).toNatClampNeg) then
          (some (am_upI ((am_upI I1 (o + 3) ((I1 o 3)).toNatClampNeg a2)) o 3 ((((am_upI I1 (o + 3) ((I1 o 3)).toNatClampNeg a2)) o 3) + (1 : Int32)))).bind fun I2 =>
          some (((I2 o 3) - (1 : Int32)), I2, J)
        else none
      else none
    else none
  else
    some ((-1 : Int32), I, J)
set_option maxHeartbeats 4000000 in
set_option maxRecDepth 100000 in
theorem axX1_addStuff {I : Nat → Nat → Int32} {J : Nat → Nat → Int64} {o : Nat} {a0 : Int32} {a1 : Int32} {a2 : Int32} {r : Int32} {I' : Nat → Nat → Int32} {J' : Nat → Nat → Int64} (ho : dm_b o) (h : DX1_addStuff I J o a0 a1 a2 = some (r, I', J')) : am_F 1 nX1_addStuff [.ref o, .int a0, .int a1, .int a2] (TX, I, J, RX) (some (.int r)) (TX, I', J', RX) := by
  unfold DX1_addStuff at h
  unfold am_F
  unfold dm_b at ho
  rcases ho with rfl | rfl | rfl
  all_goals
    refine am_E.go (n := 0) rfl ?_
    refine am_E.callF rfl (by decide) (axX1_hasRoom (by decide) rfl) ?_
    refine am_E.brk rfl (fun hp => ?_) (fun hp => ?_)
    · have h := (if_pos hp).symm.trans h
      refine am_E.go (n := 4) rfl ?_
      obtain ⟨hg, h⟩ := am_ifI h
      refine am_E.grd rfl hg ?_
      refine am_E.go (n := 4) rfl ?_
      obtain ⟨hg, h⟩ := am_ifI h
      refine am_E.grd rfl hg ?_
      obtain ⟨I1, hI, h⟩ := am_bindI h
      obtain rfl := Option.some.inj hI
      refine am_E.go (n := 4) rfl ?_
      obtain ⟨hg, h⟩ := am_ifI h
      refine am_E.grd rfl hg ?_
      refine am_E.go (n := 9) rfl ?_
      obtain ⟨I2, hI, h⟩ := am_bindI h
      obtain rfl := Option.some.inj hI
      cases h
      exact am_E.ret rfl ⟨rfl, rfl⟩
    · have h := (if_neg hp).symm.trans h
      refine am_E.go (n := 0) rfl ?_
      cases h
      exact am_E.ret rfl ⟨rfl, rfl⟩
def DX1_colourOf (I : Nat → Nat → Int32) (o : Nat) (a0 : Int32) : Option Int32 :=
  if (DX1_isStuff I o a0) = 0 then
    some ((-1 : Int32))
  else
    if ¬ (a0 < 0 ∨ 8 ≤ (a0).toNatClampNeg) then
      some ((I (o + 2) (a0).toNatClampNeg))
    else none
set_option maxHeartbeats 4000000 in
set_option maxRecDepth 100000 in
theorem axX1_colourOf {I : Nat → Nat → Int32} {J : Nat → Nat → Int64} {o : Nat} {a0 : Int32} {r : Int32} (ho : dm_b o) (h : DX1_colourOf I o a0 = some r) : am_F 1 nX1_colourOf [.ref o, .int a0] (TX, I, J, RX) (some (.int r)) (TX, I, J, RX) := by
  unfold DX1_colourOf at h
  unfold am_F
  unfold dm_b at ho
  rcases ho with rfl | rfl | rfl
  all_goals
    refine am_E.go (n := 1) rfl ?_
    refine am_E.callF rfl (by decide) (axX1_isStuff (by decide) rfl) ?_
    refine am_E.brk rfl (fun hp => ?_) (fun hp => ?_)
    · have h := (if_pos hp).symm.trans h
      refine am_E.go (n := 0) rfl ?_
      cases h
      exact am_E.ret rfl ⟨rfl, rfl⟩
    · have h := (if_neg hp).symm.trans h
      refine am_E.go (n := 2) rfl ?_
      obtain ⟨hg, h⟩ := am_ifI h
      refine am_E.grd rfl hg ?_
      refine am_E.go (n := 0) rfl ?_
      cases h
      exact am_E.ret rfl ⟨rfl, rfl⟩
def LX1_countOf : Nat → (Nat → Nat → Int32) → Nat → Int32 → Int32 → Int32 → Int32 → Option Int32
  | 0, _, _, _, _, _, _ => none
  | n + 1, I, g0, x1, x2, x4, x5 =>
    if x4 ≤ x5 then
      some x2
    else
      if ¬ (x5 < 0 ∨ 24 ≤ (x5).toNatClampNeg) then
        if ¬ (I g0 (x5).toNatClampNeg) = x1 then
          LX1_countOf n I g0 x1 x2 x4 ((x5 + (1 : Int32)))
        else
          LX1_countOf n I g0 x1 ((x2 + (1 : Int32))) x4 ((x5 + (1 : Int32)))
      else none
def DX1_countOf (I : Nat → Nat → Int32) (g0 : Nat) (a1 : Int32) : Option Int32 :=
  LX1_countOf am_FU I g0 a1 ((0 : Int32)) ((24 : Int32)) ((0 : Int32))
set_option maxHeartbeats 4000000 in
set_option maxRecDepth 100000 in
theorem alX1_countOf : ∀ (n : Nat), ∀ {I : Nat → Nat → Int32} {J : Nat → Nat → Int64} {g0 : Nat} {x1 : Int32} {x2 : Int32} {x4 : Int32} {x5 : Int32} {r : Int32}, dm_cnt g0 → LX1_countOf n I g0 x1 x2 x4 x5 = some r → am_E 0 nX1_countOf (11, [.retAddr 0, .int x1, .int x2, .ref g0, .int x4, .int x5, .retAddr 0], [], (TX, I, J, RX)) (fun v M' => v = some (.int r) ∧ M' = (TX, I, J, RX)) := by
  intro n
  induction n with
  | zero => intros; contradiction
  | succ n ih =>
    intro I J g0 x1 x2 x4 x5 r hg0 h
    simp only [LX1_countOf] at h
    unfold dm_cnt at hg0
    rcases hg0 with rfl | rfl | rfl | rfl | rfl | rfl
    all_goals
      refine am_E.go (n := 1) rfl ?_
      refine am_E.brk rfl (fun hp => ?_) (fun hp => ?_)
      · have h := (if_pos hp).symm.trans h
        refine am_E.go (n := 0) rfl ?_
        cases h
        exact am_E.ret rfl ⟨rfl, rfl⟩
      · have h := (if_neg hp).symm.trans h
        refine am_E.go (n := 1) rfl ?_
        obtain ⟨hg, h⟩ := am_ifI h
        refine am_E.grd rfl hg ?_
        refine am_E.go (n := 2) rfl ?_
        refine am_E.brk rfl (fun hp => ?_) (fun hp => ?_)
        · have h := (if_pos hp).symm.trans h
          refine am_E.go (n := 1) rfl ?_
          refine am_E.less (ls0 := [.retAddr 0, _, _, _, _, _, .retAddr 0]) ?_ ⟨Or.inl rfl, Or.inl rfl, Or.inl rfl, Or.inl rfl, Or.inl rfl, Or.inl rfl, Or.inr ⟨rfl, rfl⟩, trivial⟩
          exact ih (by decide) h
        · have h := (if_neg hp).symm.trans h
          refine am_E.go (n := 2) rfl ?_
          refine am_E.less (ls0 := [.retAddr 0, _, _, _, _, _, .retAddr 0]) ?_ ⟨Or.inl rfl, Or.inl rfl, Or.inl rfl, Or.inl rfl, Or.inl rfl, Or.inl rfl, Or.inr ⟨rfl, rfl⟩, trivial⟩
          exact ih (by decide) h
set_option maxHeartbeats 4000000 in
set_option maxRecDepth 100000 in
theorem axX1_countOf {I : Nat → Nat → Int32} {J : Nat → Nat → Int64} {g0 : Nat} {a1 : Int32} {r : Int32} (hg0 : dm_cnt g0) (h : DX1_countOf I g0 a1 = some r) : am_F 0 nX1_countOf [.ref g0, .int a1, .retAddr 0, .retAddr 0, .retAddr 0, .retAddr 0, .retAddr 0] (TX, I, J, RX) (some (.int r)) (TX, I, J, RX) := by
  unfold DX1_countOf at h
  unfold am_F
  unfold dm_cnt at hg0
  rcases hg0 with rfl | rfl | rfl | rfl | rfl | rfl
  all_goals
    refine am_E.go (n := 8) rfl ?_
    refine am_E.less (ls0 := [.retAddr 0, _, _, _, _, _, .retAddr 0]) ?_ ⟨Or.inr ⟨rfl, rfl⟩, Or.inl rfl, Or.inl rfl, Or.inl rfl, Or.inl rfl, Or.inl rfl, Or.inl rfl, trivial⟩
    exact (alX1_countOf am_FU) (by decide) h
def DX1_cellsLaidWith (I : Nat → Nat → Int32) (o : Nat) (a0 : Int32) : Option Int32 :=
  (DX1_countOf I ((o + 5)) a0).bind fun q1 =>
  some q1
set_option maxHeartbeats 4000000 in
set_option maxRecDepth 100000 in
theorem axX1_cellsLaidWith {I : Nat → Nat → Int32} {J : Nat → Nat → Int64} {o : Nat} {a0 : Int32} {r : Int32} (ho : dm_b o) (h : DX1_cellsLaidWith I o a0 = some r) : am_F 1 nX1_cellsLaidWith [.ref o, .int a0] (TX, I, J, RX) (some (.int r)) (TX, I, J, RX) := by
  unfold DX1_cellsLaidWith at h
  unfold am_F
  unfold dm_b at ho
  rcases ho with rfl | rfl | rfl
  all_goals
    refine am_E.go (n := 2) rfl ?_
    obtain ⟨q1, hq, h⟩ := am_bindI h
    refine am_E.callF rfl (by decide) (axX1_countOf (by decide) hq) ?_
    cases h
    exact am_E.ret rfl ⟨rfl, rfl⟩
def DX1_cellsPlannedWith (I : Nat → Nat → Int32) (o : Nat) (a0 : Int32) : Option Int32 :=
  (DX1_countOf I ((o + 6)) a0).bind fun q1 =>
  some q1
set_option maxHeartbeats 4000000 in
set_option maxRecDepth 100000 in
theorem axX1_cellsPlannedWith {I : Nat → Nat → Int32} {J : Nat → Nat → Int64} {o : Nat} {a0 : Int32} {r : Int32} (ho : dm_b o) (h : DX1_cellsPlannedWith I o a0 = some r) : am_F 1 nX1_cellsPlannedWith [.ref o, .int a0] (TX, I, J, RX) (some (.int r)) (TX, I, J, RX) := by
  unfold DX1_cellsPlannedWith at h
  unfold am_F
  unfold dm_b at ho
  rcases ho with rfl | rfl | rfl
  all_goals
    refine am_E.go (n := 2) rfl ?_
    obtain ⟨q1, hq, h⟩ := am_bindI h
    refine am_E.callF rfl (by decide) (axX1_countOf (by decide) hq) ?_
    cases h
    exact am_E.ret rfl ⟨rfl, rfl⟩
def DX7_isCell (a0 : Int32) : Int32 :=
  if a0 < 0 then
    (0 : Int32)
  else
    if (24 : Int32) ≤ a0 then
      (0 : Int32)
    else
      (1 : Int32)
set_option maxHeartbeats 4000000 in
set_option maxRecDepth 100000 in
theorem axX7_isCell {I : Nat → Nat → Int32} {J : Nat → Nat → Int64} {a0 : Int32} {r : Int32} (h : DX7_isCell a0 = r) : am_F 0 nX7_isCell [.int a0] (TX, I, J, RX) (some (.int r)) (TX, I, J, RX) := by
  unfold DX7_isCell at h
  unfold am_F
  refine am_E.go (n := 0) rfl ?_
  refine am_E.brk rfl (fun hp => ?_) (fun hp => ?_)
  · have h := (if_pos hp).symm.trans h
    refine am_E.go (n := 0) rfl ?_
    subst h
    first | exact am_E.ret rfl ⟨rfl, rfl⟩ | exact am_E.retG rfl (by decide) ⟨rfl, rfl⟩
  · have h := (if_neg hp).symm.trans h
    refine am_E.go (n := 1) rfl ?_
    refine am_E.brk rfl (fun hp => ?_) (fun hp => ?_)
    · have h := (if_pos hp).symm.trans h
      refine am_E.go (n := 0) rfl ?_
      subst h
      first | exact am_E.ret rfl ⟨rfl, rfl⟩ | exact am_E.retG rfl (by decide) ⟨rfl, rfl⟩
    · have h := (if_neg hp).symm.trans h
      refine am_E.go (n := 1) rfl ?_
      subst h
      first | exact am_E.ret rfl ⟨rfl, rfl⟩ | exact am_E.retG rfl (by decide) ⟨rfl, rfl⟩
def DX1_drawnAt (I : Nat → Nat → Int32) (o : Nat) (a0 : Int32) : Option Int32 :=
  if (DX7_isCell a0) = 0 then
    some ((-1 : Int32))
  else
    if ¬ (a0 < 0 ∨ 24 ≤ (a0).toNatClampNeg) then
      some ((I (o + 4) (a0).toNatClampNeg))
    else none
set_option maxHeartbeats 4000000 in
set_option maxRecDepth 100000 in
theorem axX1_drawnAt {I : Nat → Nat → Int32} {J : Nat → Nat → Int64} {o : Nat} {a0 : Int32} {r : Int32} (ho : dm_b o) (h : DX1_drawnAt I o a0 = some r) : am_F 1 nX1_drawnAt [.ref o, .int a0] (TX, I, J, RX) (some (.int r)) (TX, I, J, RX) := by
  unfold DX1_drawnAt at h
  unfold am_F
  unfold dm_b at ho
  rcases ho with rfl | rfl | rfl
  all_goals
    refine am_E.go (n := 0) rfl ?_
    refine am_E.callF rfl (by decide) (axX7_isCell rfl) ?_
    refine am_E.brk rfl (fun hp => ?_) (fun hp => ?_)
    · have h := (if_pos hp).symm.trans h
      refine am_E.go (n := 0) rfl ?_
      cases h
      exact am_E.ret rfl ⟨rfl, rfl⟩
    · have h := (if_neg hp).symm.trans h
      refine am_E.go (n := 2) rfl ?_
      obtain ⟨hg, h⟩ := am_ifI h
      refine am_E.grd rfl hg ?_
      refine am_E.go (n := 0) rfl ?_
      cases h
      exact am_E.ret rfl ⟨rfl, rfl⟩
def DX1_laidAt (I : Nat → Nat → Int32) (o : Nat) (a0 : Int32) : Option Int32 :=
  if (DX7_isCell a0) = 0 then
    some ((-1 : Int32))
  else
    if ¬ (a0 < 0 ∨ 24 ≤ (a0).toNatClampNeg) then
      some ((I (o + 5) (a0).toNatClampNeg))
    else none
set_option maxHeartbeats 4000000 in
set_option maxRecDepth 100000 in
theorem axX1_laidAt {I : Nat → Nat → Int32} {J : Nat → Nat → Int64} {o : Nat} {a0 : Int32} {r : Int32} (ho : dm_b o) (h : DX1_laidAt I o a0 = some r) : am_F 1 nX1_laidAt [.ref o, .int a0] (TX, I, J, RX) (some (.int r)) (TX, I, J, RX) := by
  unfold DX1_laidAt at h
  unfold am_F
  unfold dm_b at ho
  rcases ho with rfl | rfl | rfl
  all_goals
    refine am_E.go (n := 0) rfl ?_
    refine am_E.callF rfl (by decide) (axX7_isCell rfl) ?_
    refine am_E.brk rfl (fun hp => ?_) (fun hp => ?_)
    · have h := (if_pos hp).symm.trans h
      refine am_E.go (n := 0) rfl ?_
      cases h
      exact am_E.ret rfl ⟨rfl, rfl⟩
    · have h := (if_neg hp).symm.trans h
      refine am_E.go (n := 2) rfl ?_
      obtain ⟨hg, h⟩ := am_ifI h
      refine am_E.grd rfl hg ?_
      refine am_E.go (n := 0) rfl ?_
      cases h
      exact am_E.ret rfl ⟨rfl, rfl⟩
def DX1_plannedAt (I : Nat → Nat → Int32) (o : Nat) (a0 : Int32) : Option Int32 :=
  if (DX7_isCell a0) = 0 then
    some ((-1 : Int32))
  else
    if ¬ (a0 < 0 ∨ 24 ≤ (a0).toNatClampNeg) then
      some ((I (o + 6) (a0).toNatClampNeg))
    else none
set_option maxHeartbeats 4000000 in
set_option maxRecDepth 100000 in
theorem axX1_plannedAt {I : Nat → Nat → Int32} {J : Nat → Nat → Int64} {o : Nat} {a0 : Int32} {r : Int32} (ho : dm_b o) (h : DX1_plannedAt I o a0 = some r) : am_F 1 nX1_plannedAt [.ref o, .int a0] (TX, I, J, RX) (some (.int r)) (TX, I, J, RX) := by
  unfold DX1_plannedAt at h
  unfold am_F
  unfold dm_b at ho
  rcases ho with rfl | rfl | rfl
  all_goals
    refine am_E.go (n := 0) rfl ?_
    refine am_E.callF rfl (by decide) (axX7_isCell rfl) ?_
    refine am_E.brk rfl (fun hp => ?_) (fun hp => ?_)
    · have h := (if_pos hp).symm.trans h
      refine am_E.go (n := 0) rfl ?_
      cases h
      exact am_E.ret rfl ⟨rfl, rfl⟩
    · have h := (if_neg hp).symm.trans h
      refine am_E.go (n := 2) rfl ?_
      obtain ⟨hg, h⟩ := am_ifI h
      refine am_E.grd rfl hg ?_
      refine am_E.go (n := 0) rfl ?_
      cases h
      exact am_E.ret rfl ⟨rfl, rfl⟩
def DX1_sunAt (I : Nat → Nat → Int32) (o : Nat) (a0 : Int32) : Option Int32 :=
  if (DX7_isCell a0) = 0 then
    some ((0 : Int32))
  else
    if ¬ (a0 < 0 ∨ 24 ≤ (a0).toNatClampNeg) then
      some ((I (o + 7) (a0).toNatClampNeg))
    else none
set_option maxHeartbeats 4000000 in
set_option maxRecDepth 100000 in
theorem axX1_sunAt {I : Nat → Nat → Int32} {J : Nat → Nat → Int64} {o : Nat} {a0 : Int32} {r : Int32} (ho : dm_b o) (h : DX1_sunAt I o a0 = some r) : am_F 1 nX1_sunAt [.ref o, .int a0] (TX, I, J, RX) (some (.int r)) (TX, I, J, RX) := by
  unfold DX1_sunAt at h
  unfold am_F
  unfold dm_b at ho
  rcases ho with rfl | rfl | rfl
  all_goals
    refine am_E.go (n := 0) rfl ?_
    refine am_E.callF rfl (by decide) (axX7_isCell rfl) ?_
    refine am_E.brk rfl (fun hp => ?_) (fun hp => ?_)
    · have h := (if_pos hp).symm.trans h
      refine am_E.go (n := 0) rfl ?_
      cases h
      exact am_E.ret rfl ⟨rfl, rfl⟩
    · have h := (if_neg hp).symm.trans h
      refine am_E.go (n := 2) rfl ?_
      obtain ⟨hg, h⟩ := am_ifI h
      refine am_E.grd rfl hg ?_
      refine am_E.go (n := 0) rfl ?_
      cases h
      exact am_E.ret rfl ⟨rfl, rfl⟩
def DX1_shadeAt (I : Nat → Nat → Int32) (o : Nat) (a0 : Int32) : Option Int32 :=
  if (DX7_isCell a0) = 0 then
    some ((0 : Int32))
  else
    if ¬ (a0 < 0 ∨ 24 ≤ (a0).toNatClampNeg) then
      some ((I (o + 8) (a0).toNatClampNeg))
    else none
set_option maxHeartbeats 4000000 in
set_option maxRecDepth 100000 in
theorem axX1_shadeAt {I : Nat → Nat → Int32} {J : Nat → Nat → Int64} {o : Nat} {a0 : Int32} {r : Int32} (ho : dm_b o) (h : DX1_shadeAt I o a0 = some r) : am_F 1 nX1_shadeAt [.ref o, .int a0] (TX, I, J, RX) (some (.int r)) (TX, I, J, RX) := by
  unfold DX1_shadeAt at h
  unfold am_F
  unfold dm_b at ho
  rcases ho with rfl | rfl | rfl
  all_goals
    refine am_E.go (n := 0) rfl ?_
    refine am_E.callF rfl (by decide) (axX7_isCell rfl) ?_
    refine am_E.brk rfl (fun hp => ?_) (fun hp => ?_)
    · have h := (if_pos hp).symm.trans h
      refine am_E.go (n := 0) rfl ?_
      cases h
      exact am_E.ret rfl ⟨rfl, rfl⟩
    · have h := (if_neg hp).symm.trans h
      refine am_E.go (n := 2) rfl ?_
      obtain ⟨hg, h⟩ := am_ifI h
      refine am_E.grd rfl hg ?_
      refine am_E.go (n := 0) rfl ?_
      cases h
      exact am_E.ret rfl ⟨rfl, rfl⟩
def DX1_spraysAt (I : Nat → Nat → Int32) (o : Nat) (a0 : Int32) : Option Int32 :=
  if (DX7_isCell a0) = 0 then
    some ((0 : Int32))
  else
    if ¬ (a0 < 0 ∨ 24 ≤ (a0).toNatClampNeg) then
      some ((I (o + 9) (a0).toNatClampNeg))
    else none
set_option maxHeartbeats 4000000 in
set_option maxRecDepth 100000 in
theorem axX1_spraysAt {I : Nat → Nat → Int32} {J : Nat → Nat → Int64} {o : Nat} {a0 : Int32} {r : Int32} (ho : dm_b o) (h : DX1_spraysAt I o a0 = some r) : am_F 1 nX1_spraysAt [.ref o, .int a0] (TX, I, J, RX) (some (.int r)) (TX, I, J, RX) := by
  unfold DX1_spraysAt at h
  unfold am_F
  unfold dm_b at ho
  rcases ho with rfl | rfl | rfl
  all_goals
    refine am_E.go (n := 0) rfl ?_
    refine am_E.callF rfl (by decide) (axX7_isCell rfl) ?_
    refine am_E.brk rfl (fun hp => ?_) (fun hp => ?_)
    · have h := (if_pos hp).symm.trans h
      refine am_E.go (n := 0) rfl ?_
      cases h
      exact am_E.ret rfl ⟨rfl, rfl⟩
    · have h := (if_neg hp).symm.trans h
      refine am_E.go (n := 2) rfl ?_
      obtain ⟨hg, h⟩ := am_ifI h
      refine am_E.grd rfl hg ?_
      refine am_E.go (n := 0) rfl ?_
      cases h
      exact am_E.ret rfl ⟨rfl, rfl⟩
def DX1_laidCount (I : Nat → Nat → Int32) (o : Nat) : Option Int32 :=
  (DX1_countOf I ((o + 5)) ((-1 : Int32))).bind fun q1 =>
  some (((24 : Int32) - q1))
set_option maxHeartbeats 4000000 in
set_option maxRecDepth 100000 in
theorem axX1_laidCount {I : Nat → Nat → Int32} {J : Nat → Nat → Int64} {o : Nat} {r : Int32} (ho : dm_b o) (h : DX1_laidCount I o = some r) : am_F 1 nX1_laidCount [.ref o] (TX, I, J, RX) (some (.int r)) (TX, I, J, RX) := by
  unfold DX1_laidCount at h
  unfold am_F
  unfold dm_b at ho
  rcases ho with rfl | rfl | rfl
  all_goals
    refine am_E.go (n := 3) rfl ?_
    obtain ⟨q1, hq, h⟩ := am_bindI h
    refine am_E.callF rfl (by decide) (axX1_countOf (by decide) hq) ?_
    refine am_E.go (n := 0) rfl ?_
    cases h
    exact am_E.ret rfl ⟨rfl, rfl⟩
def DX1_isPlannedBare (I : Nat → Nat → Int32) (o : Nat) (a0 : Int32) : Option Int32 :=
  if (DX7_isCell a0) = 0 then
    some ((0 : Int32))
  else
    if ¬ (a0 < 0 ∨ 24 ≤ (a0).toNatClampNeg) then
      if ¬ (I (o + 5) (a0).toNatClampNeg) = (-1 : Int32) then
        some ((0 : Int32))
      else
        if ¬ (a0 < 0 ∨ 24 ≤ (a0).toNatClampNeg) then
          if (I (o + 6) (a0).toNatClampNeg) = (-1 : Int32) then
            some ((0 : Int32))
          else
            some ((1 : Int32))
        else none
    else none
set_option maxHeartbeats 4000000 in
set_option maxRecDepth 100000 in
theorem axX1_isPlannedBare {I : Nat → Nat → Int32} {J : Nat → Nat → Int64} {o : Nat} {a0 : Int32} {r : Int32} (ho : dm_b o) (h : DX1_isPlannedBare I o a0 = some r) : am_F 1 nX1_isPlannedBare [.ref o, .int a0] (TX, I, J, RX) (some (.int r)) (TX, I, J, RX) := by
  unfold DX1_isPlannedBare at h
  unfold am_F
  unfold dm_b at ho
  rcases ho with rfl | rfl | rfl
  all_goals
    refine am_E.go (n := 0) rfl ?_
    refine am_E.callF rfl (by decide) (axX7_isCell rfl) ?_
    refine am_E.brk rfl (fun hp => ?_) (fun hp => ?_)
    · have h := (if_pos hp).symm.trans h
      refine am_E.go (n := 0) rfl ?_
      cases h
      first | exact am_E.ret rfl ⟨rfl, rfl⟩ | exact am_E.retG rfl (by decide) ⟨rfl, rfl⟩
    · have h := (if_neg hp).symm.trans h
      refine am_E.go (n := 2) rfl ?_
      obtain ⟨hg, h⟩ := am_ifI h
      refine am_E.grd rfl hg ?_
      refine am_E.go (n := 0) rfl ?_
      refine am_E.brk rfl (fun hp => ?_) (fun hp => ?_)
      · have h := (if_pos hp).symm.trans h
        refine am_E.go (n := 0) rfl ?_
        cases h
        first | exact am_E.ret rfl ⟨rfl, rfl⟩ | exact am_E.retG rfl (by decide) ⟨rfl, rfl⟩
      · have h := (if_neg hp).symm.trans h
        refine am_E.go (n := 2) rfl ?_
        obtain ⟨hg, h⟩ := am_ifI h
        refine am_E.grd rfl hg ?_
        refine am_E.go (n := 0) rfl ?_
        refine am_E.brk rfl (fun hp => ?_) (fun hp => ?_)
        · have h := (if_pos hp).symm.trans h
          refine am_E.go (n := 0) rfl ?_
          cases h
          first | exact am_E.ret rfl ⟨rfl, rfl⟩ | exact am_E.retG rfl (by decide) ⟨rfl, rfl⟩
        · have h := (if_neg hp).symm.trans h
          refine am_E.go (n := 1) rfl ?_
          cases h
          first | exact am_E.ret rfl ⟨rfl, rfl⟩ | exact am_E.retG rfl (by decide) ⟨rfl, rfl⟩
def DX1_draw (I : Nat → Nat → Int32) (J : Nat → Nat → Int64) (o : Nat) (a0 : Int32) (a1 : Int32) : Option (Int32 × (Nat → Nat → Int32) × (Nat → Nat → Int64)) :=
  if (DX7_isCell a0) = 0 then
    some ((0 : Int32), I, J)
  else
    if ¬ (a0 < 0 ∨ 24 ≤ (a0).toNatClampNeg) then
      some ((0 : Int32), (am_upI I (o + 4) (a0).toNatClampNeg a1), J)
    else none
set_option maxHeartbeats 4000000 in
set_option maxRecDepth 100000 in
theorem axX1_draw {I : Nat → Nat → Int32} {J : Nat → Nat → Int64} {o : Nat} {a0 : Int32} {a1 : Int32} {r : Int32} {I' : Nat → Nat → Int32} {J' : Nat → Nat → Int64} (ho : dm_b o) (h : DX1_draw I J o a0 a1 = some (r, I', J')) : am_F 1 nX1_draw [.ref o, .int a0, .int a1] (TX, I, J, RX) (none) (TX, I', J', RX) := by
  unfold DX1_draw at h
  unfold am_F
  unfold dm_b at ho
  rcases ho with rfl | rfl | rfl
  all_goals
    refine am_E.go (n := 0) rfl ?_
    refine am_E.callF rfl (by decide) (axX7_isCell rfl) ?_
    refine am_E.brk rfl (fun hp => ?_) (fun hp => ?_)
    · have h := (if_pos hp).symm.trans h
      cases h
      exact am_E.ret rfl ⟨rfl, rfl⟩
    · have h := (if_neg hp).symm.trans h
      refine am_E.go (n := 3) rfl ?_
      obtain ⟨hg, h⟩ := am_ifI h
      refine am_E.grd rfl hg ?_
      cases h
      exact am_E.ret rfl ⟨rfl, rfl⟩
def DX1_planFor (I : Nat → Nat → Int32) (J : Nat → Nat → Int64) (o : Nat) (a0 : Int32) (a1 : Int32) : Option (Int32 × (Nat → Nat → Int32) × (Nat → Nat → Int64)) :=
  if (DX7_isCell a0) = 0 then
    some ((0 : Int32), I, J)
  else
    if ¬ (a0 < 0 ∨ 24 ≤ (a0).toNatClampNeg) then
      some ((0 : Int32), (am_upI I (o + 6) (a0).toNatClampNeg a1), J)
    else none
set_option maxHeartbeats 4000000 in
set_option maxRecDepth 100000 in
theorem axX1_planFor {I : Nat → Nat → Int32} {J : Nat → Nat → Int64} {o : Nat} {a0 : Int32} {a1 : Int32} {r : Int32} {I' : Nat → Nat → Int32} {J' : Nat → Nat → Int64} (ho : dm_b o) (h : DX1_planFor I J o a0 a1 = some (r, I', J')) : am_F 1 nX1_planFor [.ref o, .int a0, .int a1] (TX, I, J, RX) (none) (TX, I', J', RX) := by
  unfold DX1_planFor at h
  unfold am_F
  unfold dm_b at ho
  rcases ho with rfl | rfl | rfl
  all_goals
    refine am_E.go (n := 0) rfl ?_
    refine am_E.callF rfl (by decide) (axX7_isCell rfl) ?_
    refine am_E.brk rfl (fun hp => ?_) (fun hp => ?_)
    · have h := (if_pos hp).symm.trans h
      cases h
      exact am_E.ret rfl ⟨rfl, rfl⟩
    · have h := (if_neg hp).symm.trans h
      refine am_E.go (n := 3) rfl ?_
      obtain ⟨hg, h⟩ := am_ifI h
      refine am_E.grd rfl hg ?_
      cases h
      exact am_E.ret rfl ⟨rfl, rfl⟩
def DX1_mayBeLaid (I : Nat → Nat → Int32) (o : Nat) (a0 : Int32) : Option Int32 :=
  if (DX7_isCell a0) = 0 then
    some ((0 : Int32))
  else
    if ¬ (a0 < 0 ∨ 24 ≤ (a0).toNatClampNeg) then
      if (I (o + 5) (a0).toNatClampNeg) = (-1 : Int32) then
        (DX1_laidAt I o ((a0 + (4 : Int32)))).bind fun q1 =>
        if ¬ q1 = (-1 : Int32) then
          some ((1 : Int32))
        else
          (DX1_drawnAt I o ((a0 + (4 : Int32)))).bind fun q2 =>
          if ¬ q2 = (-1 : Int32) then
            some ((0 : Int32))
          else
            some ((1 : Int32))
      else
        some ((0 : Int32))
    else none
set_option maxHeartbeats 4000000 in
set_option maxRecDepth 100000 in
theorem axX1_mayBeLaid {I : Nat → Nat → Int32} {J : Nat → Nat → Int64} {o : Nat} {a0 : Int32} {r : Int32} (ho : dm_b o) (h : DX1_mayBeLaid I o a0 = some r) : am_F 2 nX1_mayBeLaid [.ref o, .int a0, .retAddr 0] (TX, I, J, RX) (some (.int r)) (TX, I, J, RX) := by
  unfold DX1_mayBeLaid at h
  unfold am_F
  unfold dm_b at ho
  rcases ho with rfl | rfl | rfl
  all_goals
    refine am_E.go (n := 0) rfl ?_
    refine am_E.callF rfl (by decide) (axX7_isCell rfl) ?_
    refine am_E.brk rfl (fun hp => ?_) (fun hp => ?_)
    · have h := (if_pos hp).symm.trans h
      refine am_E.go (n := 0) rfl ?_
      cases h
      first | exact am_E.ret rfl ⟨rfl, rfl⟩ | exact am_E.retG rfl (by decide) ⟨rfl, rfl⟩
    · have h := (if_neg hp).symm.trans h
      refine am_E.go (n := 2) rfl ?_
      obtain ⟨hg, h⟩ := am_ifI h
      refine am_E.grd rfl hg ?_
      refine am_E.go (n := 0) rfl ?_
      refine am_E.brk rfl (fun hp => ?_) (fun hp => ?_)
      · have h := (if_pos hp).symm.trans h
        refine am_E.go (n := 5) rfl ?_
        obtain ⟨q1, hq, h⟩ := am_bindI h
        refine am_E.callF rfl (by decide) (axX1_laidAt (by decide) hq) ?_
        refine am_E.go (n := 0) rfl ?_
        refine am_E.brk rfl (fun hp => ?_) (fun hp => ?_)
        · have h := (if_pos hp).symm.trans h
          refine am_E.go (n := 1) rfl ?_
          cases h
          first | exact am_E.ret rfl ⟨rfl, rfl⟩ | exact am_E.retG rfl (by decide) ⟨rfl, rfl⟩
        · have h := (if_neg hp).symm.trans h
          refine am_E.go (n := 1) rfl ?_
          obtain ⟨q2, hq, h⟩ := am_bindI h
          refine am_E.callF rfl (by decide) (axX1_drawnAt (by decide) hq) ?_
          refine am_E.go (n := 0) rfl ?_
          refine am_E.brk rfl (fun hp => ?_) (fun hp => ?_)
          · have h := (if_pos hp).symm.trans h
            refine am_E.go (n := 0) rfl ?_
            cases h
            first | exact am_E.ret rfl ⟨rfl, rfl⟩ | exact am_E.retG rfl (by decide) ⟨rfl, rfl⟩
          · have h := (if_neg hp).symm.trans h
            refine am_E.go (n := 1) rfl ?_
            cases h
            first | exact am_E.ret rfl ⟨rfl, rfl⟩ | exact am_E.retG rfl (by decide) ⟨rfl, rfl⟩
      · have h := (if_neg hp).symm.trans h
        refine am_E.go (n := 0) rfl ?_
        cases h
        first | exact am_E.ret rfl ⟨rfl, rfl⟩ | exact am_E.retG rfl (by decide) ⟨rfl, rfl⟩
def DX1_takeOver (I : Nat → Nat → Int32) (J : Nat → Nat → Int64) (o : Nat) (a0 : Int32) (a1 : Int32) : Option (Int32 × (Nat → Nat → Int32) × (Nat → Nat → Int64)) :=
  if (DX7_isCell a0) = 0 then
    some ((0 : Int32), I, J)
  else
    if ¬ (a0 < 0 ∨ 24 ≤ (a0).toNatClampNeg) then
      if ¬ (a0 < 0 ∨ 24 ≤ (a0).toNatClampNeg) then
        if ¬ (a0 < 0 ∨ 24 ≤ (a0).toNatClampNeg) then
          (some (am_upI ((am_upI ((am_upI I (o + 5) (a0).toNatClampNeg a1)) (o + 7) (a0).toNatClampNeg (0 : Int32))) (o + 8) (a0).toNatClampNeg (0 : Int32))).bind fun I1 =>
          if ¬ (a0 < 0 ∨ 24 ≤ (a0).toNatClampNeg) then
            some ((0 : Int32), (am_upI I1 (o + 9) (a0).toNatClampNeg (0 : Int32)), J)
          else none
        else none
      else none
    else none
set_option maxHeartbeats 4000000 in
set_option maxRecDepth 100000 in
theorem axX1_takeOver {I : Nat → Nat → Int32} {J : Nat → Nat → Int64} {o : Nat} {a0 : Int32} {a1 : Int32} {r : Int32} {I' : Nat → Nat → Int32} {J' : Nat → Nat → Int64} (ho : dm_b o) (h : DX1_takeOver I J o a0 a1 = some (r, I', J')) : am_F 1 nX1_takeOver [.ref o, .int a0, .int a1] (TX, I, J, RX) (none) (TX, I', J', RX) := by
  unfold DX1_takeOver at h
  unfold am_F
  unfold dm_b at ho
  rcases ho with rfl | rfl | rfl
  all_goals
    refine am_E.go (n := 0) rfl ?_
    refine am_E.callF rfl (by decide) (axX7_isCell rfl) ?_
    refine am_E.brk rfl (fun hp => ?_) (fun hp => ?_)
    · have h := (if_pos hp).symm.trans h
      cases h
      exact am_E.ret rfl ⟨rfl, rfl⟩
    · have h := (if_neg hp).symm.trans h
      refine am_E.go (n := 3) rfl ?_
      obtain ⟨hg, h⟩ := am_ifI h
      refine am_E.grd rfl hg ?_
      refine am_E.go (n := 3) rfl ?_
      obtain ⟨hg, h⟩ := am_ifI h
      refine am_E.grd rfl hg ?_
      refine am_E.go (n := 3) rfl ?_
      obtain ⟨hg, h⟩ := am_ifI h
      refine am_E.grd rfl hg ?_
      obtain ⟨I1, hI, h⟩ := am_bindI h
      obtain rfl := Option.some.inj hI
      refine am_E.go (n := 3) rfl ?_
      obtain ⟨hg, h⟩ := am_ifI h
      refine am_E.grd rfl hg ?_
      cases h
      exact am_E.ret rfl ⟨rfl, rfl⟩
