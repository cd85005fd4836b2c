/-! SENTENCES: the rows' elements -/
theorem am_upP {P : Int32 → Prop} {A : am_mI} {c k i : Nat} {v : Int32} (hv : P v) (ho : P (A c i)) : P (am_upI A c k v c i) := by
  unfold am_upI
  by_cases q : c = c ∧ i = k
  · rw [if_pos q]; exact hv
  · rw [if_neg q]; exact ho
theorem am_start : am_Iv 0 IX0 J00 IM0 J00 := by
  refine ⟨⟨rfl, rfl, rfl, rfl, rfl, rfl, rfl, rfl, rfl, rfl, rfl, rfl, rfl, rfl, rfl⟩, ⟨rfl, rfl, rfl, rfl, rfl, rfl, rfl⟩, rfl, ?_, ⟨rfl, Or.inl rfl, fun q => absurd q (by decide)⟩, ⟨rfl, by decide, fun _ _ => rfl⟩, ?_, fun q => absurd q (by decide), rfl, fun _ _ q => absurd (show (0 : Int32) = 2 from q) (by decide), ⟨fun _ _ => ⟨rfl, rfl, rfl, rfl, rfl, rfl⟩, fun _ _ => ⟨rfl, rfl, rfl, rfl, rfl, rfl, rfl, rfl, rfl, rfl, rfl, rfl⟩⟩⟩
  · intro s hs
    have e : s = 0 ∨ s = 1 ∨ s = 2 ∨ s = 3 ∨ s = 4 ∨ s = 5 ∨ s = 6 ∨ s = 7 := by omega
    rcases e with rfl | rfl | rfl | rfl | rfl | rfl | rfl | rfl <;>
      exact ⟨rfl, rfl, fun q => absurd q (by decide), fun _ => rfl, fun q => absurd q (by decide), Or.inl rfl, by decide, by decide, fun q => absurd q (by decide), fun _ _ => rfl⟩
  · refine ⟨by decide, by decide, by decide, by decide, by decide, fun i hi => ⟨(by decide : (0 : Int) ≤ (0 : Int32).toInt ∧ (0 : Int32).toInt ≤ 6), (by decide : (0 : Int) ≤ (0 : Int32).toInt ∧ (0 : Int32).toInt ≤ 7), (by decide : (0 : Int) ≤ (0 : Int32).toInt ∧ (0 : Int32).toInt ≤ 9)⟩, fun i hi => ⟨(by decide : (-1 : Int) ≤ (-1 : Int32).toInt ∧ (-1 : Int32).toInt ≤ 7), (by decide : (-1 : Int) ≤ (-1 : Int32).toInt ∧ (-1 : Int32).toInt < (0 : Int32).toInt), (by decide : (-1 : Int) ≤ (-1 : Int32).toInt ∧ (-1 : Int32).toInt < (0 : Int32).toInt)⟩, fun i hi => ⟨(by decide : (0 : Int) ≤ (0 : Int32).toInt ∧ (0 : Int32).toInt ≤ 20000 * ((0 : Nat) : Int)), (by decide : (0 : Int) ≤ (0 : Int32).toInt ∧ (0 : Int32).toInt ≤ 20000 * ((0 : Nat) : Int)), (by decide : (0 : Int) ≤ (0 : Int32).toInt ∧ (0 : Int32).toInt ≤ 20000 * ((0 : Nat) : Int))⟩⟩
theorem am_Iv.row0 {t : Nat} {I : am_mI} {J : am_mJ} {A : am_mI} {B : am_mJ} {k : Nat} {v : Int32} (h : am_Iv t I J A B) (hv : 0 ≤ v.toInt ∧ v.toInt ≤ 6) (hk : k < 8) : am_Iv t (am_upI I 3 k v) J (am_upI A 2 k v) B := by
  have H := h.rg.2.2.2.2.2.1
  exact ⟨⟨(by show am_upI I 3 k v 3 = am_upI A 2 k v 2; rw [am_upI_at, am_upI_at, show I 3 = A 2 from h.bd.r0]), h.bd.r1, h.bd.r2, h.bd.r3, h.bd.r4, h.bd.r5, h.bd.r6, h.bd.r7, h.bd.r8, h.bd.n0, h.bd.n1, h.bd.n2, h.bd.n3, h.bd.n4, h.bd.n5⟩, ⟨h.rf.q1, h.rf.q2, h.rf.q3, h.rf.q4, h.rf.q5, h.rf.q6, h.rf.q7⟩, h.ft, fun s hs => (h.sh s hs).off (am_upI_ne (by omega)) rfl rfl rfl rfl rfl rfl, h.im, h.ac, ⟨h.rg.1, h.rg.2.1, h.rg.2.2.1, h.rg.2.2.2.1, h.rg.2.2.2.2.1, (fun i hi => ⟨am_upP (P := fun v => 0 ≤ v.toInt ∧ v.toInt ≤ 6) (A := A) (c := 2) hv ((H i hi).1), (H i hi).2.1, (H i hi).2.2⟩), h.rg.2.2.2.2.2.2.1, h.rg.2.2.2.2.2.2.2⟩, h.kg, h.wd, h.st, ⟨fun i hi => ⟨(am_upI_no (by omega)).trans (h.ot.1 i hi).1, (h.ot.1 i hi).2⟩, h.ot.2⟩⟩
theorem am_Iv.row1 {t : Nat} {I : am_mI} {J : am_mJ} {A : am_mI} {B : am_mJ} {k : Nat} {v : Int32} (h : am_Iv t I J A B) (hv : 0 ≤ v.toInt ∧ v.toInt ≤ 7) (hk : k < 8) : am_Iv t (am_upI I 4 k v) J (am_upI A 3 k v) B := by
  have H := h.rg.2.2.2.2.2.1
  exact ⟨⟨h.bd.r0, (by show am_upI I 4 k v 4 = am_upI A 3 k v 3; rw [am_upI_at, am_upI_at, show I 4 = A 3 from h.bd.r1]), h.bd.r2, h.bd.r3, h.bd.r4, h.bd.r5, h.bd.r6, h.bd.r7, h.bd.r8, h.bd.n0, h.bd.n1, h.bd.n2, h.bd.n3, h.bd.n4, h.bd.n5⟩, ⟨h.rf.q1, h.rf.q2, h.rf.q3, h.rf.q4, h.rf.q5, h.rf.q6, h.rf.q7⟩, h.ft, fun s hs => (h.sh s hs).off (am_upI_ne (by omega)) rfl rfl rfl rfl rfl rfl, h.im, h.ac, ⟨h.rg.1, h.rg.2.1, h.rg.2.2.1, h.rg.2.2.2.1, h.rg.2.2.2.2.1, (fun i hi => ⟨(H i hi).1, am_upP (P := fun v => 0 ≤ v.toInt ∧ v.toInt ≤ 7) (A := A) (c := 3) hv ((H i hi).2.1), (H i hi).2.2⟩), h.rg.2.2.2.2.2.2.1, h.rg.2.2.2.2.2.2.2⟩, h.kg, h.wd, h.st, ⟨fun i hi => ⟨(h.ot.1 i hi).1, (am_upI_no (by omega)).trans (h.ot.1 i hi).2.1, (h.ot.1 i hi).2.2⟩, h.ot.2⟩⟩
theorem am_Iv.row2 {t : Nat} {I : am_mI} {J : am_mJ} {A : am_mI} {B : am_mJ} {k : Nat} {v : Int32} (h : am_Iv t I J A B) (hv : 0 ≤ v.toInt ∧ v.toInt ≤ 9) (hk : k < 8) : am_Iv t (am_upI I 5 k v) J (am_upI A 4 k v) B := by
  have H := h.rg.2.2.2.2.2.1
  exact ⟨⟨h.bd.r0, h.bd.r1, (by show am_upI I 5 k v 5 = am_upI A 4 k v 4; rw [am_upI_at, am_upI_at, show I 5 = A 4 from h.bd.r2]), h.bd.r3, h.bd.r4, h.bd.r5, h.bd.r6, h.bd.r7, h.bd.r8, h.bd.n0, h.bd.n1, h.bd.n2, h.bd.n3, h.bd.n4, h.bd.n5⟩, ⟨h.rf.q1, h.rf.q2, h.rf.q3, h.rf.q4, h.rf.q5, h.rf.q6, h.rf.q7⟩, h.ft, fun s hs => (h.sh s hs).off (am_upI_ne (by omega)) rfl rfl rfl rfl rfl rfl, h.im, h.ac, ⟨h.rg.1, h.rg.2.1, h.rg.2.2.1, h.rg.2.2.2.1, h.rg.2.2.2.2.1, (fun i hi => ⟨(H i hi).1, (H i hi).2.1, am_upP (P := fun v => 0 ≤ v.toInt ∧ v.toInt ≤ 9) (A := A) (c := 4) hv ((H i hi).2.2)⟩), h.rg.2.2.2.2.2.2.1, h.rg.2.2.2.2.2.2.2⟩, h.kg, h.wd, h.st, ⟨fun i hi => ⟨(h.ot.1 i hi).1, (h.ot.1 i hi).2.1, (am_upI_no (by omega)).trans (h.ot.1 i hi).2.2.1, (h.ot.1 i hi).2.2.2⟩, h.ot.2⟩⟩
theorem am_Iv.row3 {t : Nat} {I : am_mI} {J : am_mJ} {A : am_mI} {B : am_mJ} {k : Nat} {v : Int32} (h : am_Iv t I J A B) (hv : -1 ≤ v.toInt ∧ v.toInt ≤ 7) (hk : k < 24) : am_Iv t (am_upI I 6 k v) J (am_upI A 5 k v) B := by
  have H := h.rg.2.2.2.2.2.2.1
  exact ⟨⟨h.bd.r0, h.bd.r1, h.bd.r2, (by show am_upI I 6 k v 6 = am_upI A 5 k v 5; rw [am_upI_at, am_upI_at, show I 6 = A 5 from h.bd.r3]), h.bd.r4, h.bd.r5, h.bd.r6, h.bd.r7, h.bd.r8, h.bd.n0, h.bd.n1, h.bd.n2, h.bd.n3, h.bd.n4, h.bd.n5⟩, ⟨h.rf.q1, h.rf.q2, h.rf.q3, h.rf.q4, h.rf.q5, h.rf.q6, h.rf.q7⟩, h.ft, fun s hs => (h.sh s hs).off (am_upI_ne (by omega)) rfl rfl rfl rfl rfl rfl, h.im, h.ac, ⟨h.rg.1, h.rg.2.1, h.rg.2.2.1, h.rg.2.2.2.1, h.rg.2.2.2.2.1, h.rg.2.2.2.2.2.1, (fun i hi => ⟨am_upP (P := fun v => -1 ≤ v.toInt ∧ v.toInt ≤ 7) (A := A) (c := 5) hv ((H i hi).1), (H i hi).2.1, (H i hi).2.2⟩), h.rg.2.2.2.2.2.2.2⟩, h.kg, h.wd, h.st, ⟨h.ot.1, fun i hi => ⟨(am_upI_no (by omega)).trans (h.ot.2 i hi).1, (h.ot.2 i hi).2⟩⟩⟩
theorem am_Iv.row4 {t : Nat} {I : am_mI} {J : am_mJ} {A : am_mI} {B : am_mJ} {k : Nat} {v : Int32} (h : am_Iv t I J A B) (hv : -1 ≤ v.toInt ∧ v.toInt < (A 0 0).toInt) (hk : k < 24) : am_Iv t (am_upI I 7 k v) J (am_upI A 6 k v) B := by
  have H := h.rg.2.2.2.2.2.2.1
  exact ⟨⟨h.bd.r0, h.bd.r1, h.bd.r2, h.bd.r3, (by show am_upI I 7 k v 7 = am_upI A 6 k v 6; rw [am_upI_at, am_upI_at, show I 7 = A 6 from h.bd.r4]), h.bd.r5, h.bd.r6, h.bd.r7, h.bd.r8, h.bd.n0, h.bd.n1, h.bd.n2, h.bd.n3, h.bd.n4, h.bd.n5⟩, ⟨h.rf.q1, h.rf.q2, h.rf.q3, h.rf.q4, h.rf.q5, h.rf.q6, h.rf.q7⟩, h.ft, fun s hs => (h.sh s hs).off (am_upI_ne (by omega)) rfl rfl rfl rfl rfl rfl, h.im, h.ac, ⟨h.rg.1, h.rg.2.1, h.rg.2.2.1, h.rg.2.2.2.1, h.rg.2.2.2.2.1, h.rg.2.2.2.2.2.1, (fun i hi => ⟨(H i hi).1, am_upP (P := fun v => -1 ≤ v.toInt ∧ v.toInt < (A 0 0).toInt) (A := A) (c := 6) hv ((H i hi).2.1), (H i hi).2.2⟩), h.rg.2.2.2.2.2.2.2⟩, h.kg, h.wd, h.st, ⟨h.ot.1, fun i hi => ⟨(h.ot.2 i hi).1, (am_upI_no (by omega)).trans (h.ot.2 i hi).2.1, (h.ot.2 i hi).2.2⟩⟩⟩
theorem am_Iv.row5 {t : Nat} {I : am_mI} {J : am_mJ} {A : am_mI} {B : am_mJ} {k : Nat} {v : Int32} (h : am_Iv t I J A B) (hv : -1 ≤ v.toInt ∧ v.toInt < (A 0 0).toInt) (hk : k < 24) : am_Iv t (am_upI I 8 k v) J (am_upI A 7 k v) B := by
  have H := h.rg.2.2.2.2.2.2.1
  exact ⟨⟨h.bd.r0, h.bd.r1, h.bd.r2, h.bd.r3, h.bd.r4, (by show am_upI I 8 k v 8 = am_upI A 7 k v 7; rw [am_upI_at, am_upI_at, show I 8 = A 7 from h.bd.r5]), h.bd.r6, h.bd.r7, h.bd.r8, h.bd.n0, h.bd.n1, h.bd.n2, h.bd.n3, h.bd.n4, h.bd.n5⟩, ⟨h.rf.q1, h.rf.q2, h.rf.q3, h.rf.q4, h.rf.q5, h.rf.q6, h.rf.q7⟩, h.ft, fun s hs => (h.sh s hs).off (am_upI_ne (by omega)) rfl rfl rfl rfl rfl rfl, h.im, h.ac, ⟨h.rg.1, h.rg.2.1, h.rg.2.2.1, h.rg.2.2.2.1, h.rg.2.2.2.2.1, h.rg.2.2.2.2.2.1, (fun i hi => ⟨(H i hi).1, (H i hi).2.1, am_upP (P := fun v => -1 ≤ v.toInt ∧ v.toInt < (A 0 0).toInt) (A := A) (c := 7) hv ((H i hi).2.2)⟩), h.rg.2.2.2.2.2.2.2⟩, h.kg, h.wd, h.st, ⟨h.ot.1, fun i hi => ⟨(h.ot.2 i hi).1, (h.ot.2 i hi).2.1, (am_upI_no (by omega)).trans (h.ot.2 i hi).2.2.1, (h.ot.2 i hi).2.2.2⟩⟩⟩
theorem am_Iv.row6 {t : Nat} {I : am_mI} {J : am_mJ} {A : am_mI} {B : am_mJ} {k : Nat} {v : Int32} (h : am_Iv t I J A B) (hv : 0 ≤ v.toInt ∧ v.toInt ≤ t) (hk : k < 24) : am_Iv t (am_upI I 9 k v) J (am_upI A 8 k v) B := by
  have H := h.rg.2.2.2.2.2.2.2
  exact ⟨⟨h.bd.r0, h.bd.r1, h.bd.r2, h.bd.r3, h.bd.r4, h.bd.r5, (by show am_upI I 9 k v 9 = am_upI A 8 k v 8; rw [am_upI_at, am_upI_at, show I 9 = A 8 from h.bd.r6]), h.bd.r7, h.bd.r8, h.bd.n0, h.bd.n1, h.bd.n2, h.bd.n3, h.bd.n4, h.bd.n5⟩, ⟨h.rf.q1, h.rf.q2, h.rf.q3, h.rf.q4, h.rf.q5, h.rf.q6, h.rf.q7⟩, h.ft, fun s hs => (h.sh s hs).off (am_upI_ne (by omega)) rfl rfl rfl rfl rfl rfl, h.im, h.ac, ⟨h.rg.1, h.rg.2.1, h.rg.2.2.1, h.rg.2.2.2.1, h.rg.2.2.2.2.1, h.rg.2.2.2.2.2.1, h.rg.2.2.2.2.2.2.1, (fun i hi => ⟨am_upP (P := fun v => 0 ≤ v.toInt ∧ v.toInt ≤ t) (A := A) (c := 8) hv ((H i hi).1), (H i hi).2.1, (H i hi).2.2⟩)⟩, h.kg, h.wd, h.st, ⟨h.ot.1, fun i hi => ⟨(h.ot.2 i hi).1, (h.ot.2 i hi).2.1, (h.ot.2 i hi).2.2.1, (am_upI_no (by omega)).trans (h.ot.2 i hi).2.2.2.1, (h.ot.2 i hi).2.2.2.2⟩⟩⟩
theorem am_Iv.row7 {t : Nat} {I : am_mI} {J : am_mJ} {A : am_mI} {B : am_mJ} {k : Nat} {v : Int32} (h : am_Iv t I J A B) (hv : 0 ≤ v.toInt ∧ v.toInt ≤ t) (hk : k < 24) : am_Iv t (am_upI I 10 k v) J (am_upI A 9 k v) B := by
  have H := h.rg.2.2.2.2.2.2.2
  exact ⟨⟨h.bd.r0, h.bd.r1, h.bd.r2, h.bd.r3, h.bd.r4, h.bd.r5, h.bd.r6, (by show am_upI I 10 k v 10 = am_upI A 9 k v 9; rw [am_upI_at, am_upI_at, show I 10 = A 9 from h.bd.r7]), h.bd.r8, h.bd.n0, h.bd.n1, h.bd.n2, h.bd.n3, h.bd.n4, h.bd.n5⟩, ⟨h.rf.q1, h.rf.q2, h.rf.q3, h.rf.q4, h.rf.q5, h.rf.q6, h.rf.q7⟩, h.ft, fun s hs => (h.sh s hs).off (am_upI_ne (by omega)) rfl rfl rfl rfl rfl rfl, h.im, h.ac, ⟨h.rg.1, h.rg.2.1, h.rg.2.2.1, h.rg.2.2.2.1, h.rg.2.2.2.2.1, h.rg.2.2.2.2.2.1, h.rg.2.2.2.2.2.2.1, (fun i hi => ⟨(H i hi).1, am_upP (P := fun v => 0 ≤ v.toInt ∧ v.toInt ≤ t) (A := A) (c := 9) hv ((H i hi).2.1), (H i hi).2.2⟩)⟩, h.kg, h.wd, h.st, ⟨h.ot.1, fun i hi => ⟨(h.ot.2 i hi).1, (h.ot.2 i hi).2.1, (h.ot.2 i hi).2.2.1, (h.ot.2 i hi).2.2.2.1, (am_upI_no (by omega)).trans (h.ot.2 i hi).2.2.2.2.1, (h.ot.2 i hi).2.2.2.2.2⟩⟩⟩
theorem am_Iv.row8 {t : Nat} {I : am_mI} {J : am_mJ} {A : am_mI} {B : am_mJ} {k : Nat} {v : Int32} (h : am_Iv t I J A B) (hv : 0 ≤ v.toInt ∧ v.toInt ≤ t) (hk : k < 24) : am_Iv t (am_upI I 11 k v) J (am_upI A 10 k v) B := by
  have H := h.rg.2.2.2.2.2.2.2
  exact ⟨⟨h.bd.r0, h.bd.r1, h.bd.r2, h.bd.r3, h.bd.r4, h.bd.r5, h.bd.r6, h.bd.r7, (by show am_upI I 11 k v 11 = am_upI A 10 k v 10; rw [am_upI_at, am_upI_at, show I 11 = A 10 from h.bd.r8]), h.bd.n0, h.bd.n1, h.bd.n2, h.bd.n3, h.bd.n4, h.bd.n5⟩, ⟨h.rf.q1, h.rf.q2, h.rf.q3, h.rf.q4, h.rf.q5, h.rf.q6, h.rf.q7⟩, h.ft, fun s hs => (h.sh s hs).off (am_upI_ne (by omega)) rfl rfl rfl rfl rfl rfl, h.im, h.ac, ⟨h.rg.1, h.rg.2.1, h.rg.2.2.1, h.rg.2.2.2.1, h.rg.2.2.2.2.1, h.rg.2.2.2.2.2.1, h.rg.2.2.2.2.2.2.1, (fun i hi => ⟨(H i hi).1, (H i hi).2.1, am_upP (P := fun v => 0 ≤ v.toInt ∧ v.toInt ≤ t) (A := A) (c := 10) hv ((H i hi).2.2)⟩)⟩, h.kg, h.wd, h.st, ⟨h.ot.1, fun i hi => ⟨(h.ot.2 i hi).1, (h.ot.2 i hi).2.1, (h.ot.2 i hi).2.2.1, (h.ot.2 i hi).2.2.2.1, (h.ot.2 i hi).2.2.2.2.1, (am_upI_no (by omega)).trans (h.ot.2 i hi).2.2.2.2.2.1, (h.ot.2 i hi).2.2.2.2.2.2⟩⟩⟩
theorem cell_in {a : Int32} (h : ¬ DX7_isCell a = 0) : ¬ (a < 0 ∨ 24 ≤ a.toNatClampNeg) ∧ (0 ≤ a.toInt ∧ a.toInt < 24) := by
  have q0 : (0 : Int32).toInt = 0 := rfl
  have q1 : (24 : Int32).toInt = 24 := rfl
  have e : a.toNatClampNeg = a.toInt.toNat := rfl
  unfold DX7_isCell at h
  by_cases h0 : a < 0
  · rw [if_pos h0] at h; exact absurd rfl h
  · rw [if_neg h0] at h
    by_cases h1 : (24 : Int32) ≤ a
    · rw [if_pos h1] at h; exact absurd rfl h
    · rw [Int32.lt_iff_toInt_lt] at h0
      rw [Int32.le_iff_toInt_le] at h1
      have hb : 0 ≤ a.toInt ∧ a.toInt < 24 := by omega
      refine ⟨?_, hb⟩
      rw [Int32.lt_iff_toInt_lt]
      omega
theorem cell_lt {a : Int32} (h : ¬ DX7_isCell a = 0) : a.toNatClampNeg < 24 := by
  have e : a.toNatClampNeg = a.toInt.toNat := rfl
  have := (cell_in h).2
  omega
theorem mcell (a : Int32) : DX8_isCell a = DX7_isCell a := rfl
theorem stuff_in {I A : am_mI} {a : Int32} (e : I 2 3 = A 0 0) (hn : 0 ≤ (A 0 0).toInt ∧ (A 0 0).toInt ≤ 8) : DX1_isStuff I 2 a = DX8_isStuff A a := by
  have q0 : (0 : Int32).toInt = 0 := rfl
  have q1 : (8 : Int32).toInt = 8 := rfl
  unfold DX1_isStuff DX8_isStuff
  rw [e]
  by_cases h0 : a < 0
  · rw [if_pos h0, if_pos h0]
  · rw [if_neg h0, if_neg h0]
    by_cases h1 : A 0 0 ≤ a
    · rw [if_pos h1, if_pos h1]
    · rw [if_neg h1, if_neg h1, if_neg]
      rw [Int32.le_iff_toInt_le] at h1 ⊢
      omega
theorem stuff_rg {A : am_mI} {a : Int32} (h : ¬ DX8_isStuff A a = 0) : 0 ≤ a.toInt ∧ a.toInt < (A 0 0).toInt := by
  have q0 : (0 : Int32).toInt = 0 := rfl
  unfold DX8_isStuff at h
  by_cases h0 : a < 0
  · rw [if_pos h0] at h; exact absurd rfl h
  · rw [if_neg h0] at h
    by_cases h1 : A 0 0 ≤ a
    · rw [if_pos h1] at h; exact absurd rfl h
    · rw [Int32.lt_iff_toInt_lt] at h0
      rw [Int32.le_iff_toInt_le] at h1
      omega
theorem am_Iv.nn {t : Nat} {I : am_mI} {J : am_mJ} {A : am_mI} {B : am_mJ} (h : am_Iv t I J A B) : 0 ≤ (A 0 0).toInt ∧ (A 0 0).toInt ≤ 8 := h.rg.1
theorem op_cell {t : Nat} {I : am_mI} {J : am_mJ} {A : am_mI} {B : am_mJ} (h : am_Iv t I J A B) (a v : Int32) : am_Tw (t + 20000) (DX7_cell I J a v) (DX8_cell A B a v) := by
  unfold DX7_cell DX8_cell
  rw [mcell]
  have q3 : (8 : Int32).toInt = 8 := rfl
  have q2 : (7 : Int32).toInt = 7 := rfl
  have q0 : (-1 : Int32).toInt = -1 := rfl
  by_cases c : ¬ DX7_isCell a = 0
  · rw [if_pos c, if_pos c]
    by_cases h0 : v < (-1 : Int32)
    · rw [if_pos h0, if_pos h0]
      exact .no6 h
    · rw [if_neg h0, if_neg h0]
      have e : v < (8 : Int32) ↔ v ≤ (7 : Int32) := by
        rw [Int32.lt_iff_toInt_lt, Int32.le_iff_toInt_le]
        omega
      by_cases h1 : v < (8 : Int32)
      · rw [if_pos h1, if_pos (e.mp h1)]
        unfold DX1_draw
        rw [if_neg c, if_pos (cell_in c).1, if_pos (cell_in c).1]
        simp only [Option.bind_some]
        have hr : -1 ≤ v.toInt ∧ v.toInt ≤ 7 := by
          rw [Int32.lt_iff_toInt_lt] at h0 h1
          omega
        by_cases h2 : ¬ v = (-1 : Int32)
        · rw [if_pos h2, if_pos h2]
          exact .mk1 (h.row3 hr (cell_lt c))
        · rw [if_neg h2, if_neg h2]
          exact .mk1 (h.row3 hr (cell_lt c))
      · rw [if_neg h1, if_neg (fun q => h1 (e.mpr q))]
        exact .no6 h
  · rw [if_neg c, if_neg c]
    exact .no1 h
theorem op_plan {t : Nat} {I : am_mI} {J : am_mJ} {A : am_mI} {B : am_mJ} (h : am_Iv t I J A B) (a v : Int32) : am_Tw (t + 20000) (DX7_plan I J a v) (DX8_plan A B a v) := by
  unfold DX7_plan DX8_plan
  rw [mcell, stuff_in (A := A) h.bd.n0 h.rg.1]
  have q0 : (-1 : Int32).toInt = -1 := rfl
  by_cases c : DX7_isCell a = 0
  · rw [if_pos c, if_pos c]
    exact .no1 h
  · rw [if_neg c, if_neg c]
    have put : DX1_planFor I J 2 a v = some (0, am_upI I 8 a.toNatClampNeg v, J) := by
      unfold DX1_planFor
      rw [if_neg c, if_pos (cell_in c).1]
    rw [put, if_pos (cell_in c).1]
    simp only [Option.bind_some]
    by_cases hv : v = -1
    · rw [if_pos hv, if_pos hv, if_neg (fun q => q hv), if_neg (fun q => q hv)]
      have hN := h.nn
      exact .mk1 (h.row5 (by rw [hv]; exact ⟨by decide, by rw [q0]; omega⟩) (cell_lt c))
    · rw [if_neg hv, if_neg hv]
      by_cases hs : ¬ DX8_isStuff A v = 0
      · have := stuff_rg hs
        rw [if_pos hs, if_pos hs, if_pos hv, if_pos hv]
        exact .mk1 (h.row5 (by omega) (cell_lt c))
      · rw [if_neg hs, if_neg hs]
        exact .no1 h
theorem cellAt {t : Nat} {I : am_mI} {J : am_mJ} {A : am_mI} {B : am_mJ} (h : am_Iv t I J A B) {a : Int32} (c : ¬ DX7_isCell a = 0) :
    DX1_drawnAt I 2 a = some (A 5 a.toNatClampNeg) ∧ DX1_laidAt I 2 a = some (A 6 a.toNatClampNeg) ∧ DX1_plannedAt I 2 a = some (A 7 a.toNatClampNeg) ∧ DX1_sunAt I 2 a = some (A 8 a.toNatClampNeg) ∧ DX1_shadeAt I 2 a = some (A 9 a.toNatClampNeg) ∧ DX1_spraysAt I 2 a = some (A 10 a.toNatClampNeg) := by
  unfold DX1_drawnAt DX1_laidAt DX1_plannedAt DX1_sunAt DX1_shadeAt DX1_spraysAt
  have c2 := (cell_in c).1
  refine ⟨?_, ?_, ?_, ?_, ?_, ?_⟩ <;> rw [if_neg c, if_pos c2]
  · rw [show I (2 + 4) = A 5 from h.bd.r3]
  · rw [show I (2 + 5) = A 6 from h.bd.r4]
  · rw [show I (2 + 6) = A 7 from h.bd.r5]
  · rw [show I (2 + 7) = A 8 from h.bd.r6]
  · rw [show I (2 + 8) = A 9 from h.bd.r7]
  · rw [show I (2 + 9) = A 10 from h.bd.r8]
theorem op_cellOf {t : Nat} {I : am_mI} {J : am_mJ} {A : am_mI} {B : am_mJ} (h : am_Iv t I J A B) (a w : Int32) : am_Tw (t + 20000) (DX7_cellOf I J a w) (DX8_cellOf A B a w) := by
  unfold DX7_cellOf DX8_cellOf
  rw [mcell]
  have q0 : (0 : Int32).toInt = 0 := rfl
  have q5 : (5 : Int32).toInt = 5 := rfl
  by_cases c : DX7_isCell a = 0
  · rw [if_neg (fun q => q c), if_pos c]
    exact .noTen5 h
  · have c2 := (cell_in c).1
    obtain ⟨h0, h1, h2, h3, h4, h5⟩ := cellAt h c
    rw [if_pos c, if_neg c, h0, h1, h2, h3, h4, h5]
    simp only [Option.bind_some, if_pos c2]
    by_cases w0 : w = 0
    · subst w0
      exact .mk1 h
    by_cases w1 : w = 1
    · subst w1
      exact .mk1 h
    by_cases w2 : w = 2
    · subst w2
      exact .mk1 h
    by_cases w3 : w = 3
    · subst w3
      exact .mk1 h
    by_cases w4 : w = 4
    · subst w4
      exact .mk1 h
    by_cases w5 : w = 5
    · subst w5
      exact .mk1 h
    simp only [if_neg w0, if_neg w1, if_neg w2, if_neg w3, if_neg w4, if_neg w5]
    by_cases n0 : w < 0
    · rw [if_pos n0]
      exact .noTen5 h
    · rw [if_neg n0, if_neg]
      · exact .noTen5 h
      · intro q
        rw [Int32.lt_iff_toInt_lt] at n0
        rw [Int32.le_iff_toInt_le] at q
        have ne : ∀ k : Int32, ¬ w = k → w.toInt ≠ k.toInt := fun k hk e => hk (Int32.toInt_inj.mp e)
        have e0 := ne 0 w0
        have e1 := ne 1 w1
        have e2 := ne 2 w2
        have e3 := ne 3 w3
        have e4 := ne 4 w4
        have e5 := ne 5 w5
        have v1 : (1 : Int32).toInt = 1 := rfl
        have v2 : (2 : Int32).toInt = 2 := rfl
        have v3 : (3 : Int32).toInt = 3 := rfl
        have v4 : (4 : Int32).toInt = 4 := rfl
        omega
theorem mayAs {t : Nat} {I : am_mI} {J : am_mJ} {A : am_mI} {B : am_mJ} (h : am_Iv t I J A B) {a : Int32} (c : ¬ DX7_isCell a = 0) : ∃ r : Int32, DX1_mayBeLaid I 2 a = some r ∧ DX8_mayLay A a = some r := by
  have c2 := cell_in c
  unfold DX1_mayBeLaid DX8_mayLay
  rw [if_neg c, if_pos c2.1, if_pos c2.1, show I (2 + 5) = A 6 from h.bd.r4]
  by_cases e : A 6 a.toNatClampNeg = -1
  · rw [if_pos e, if_neg (fun q => q e)]
    have v4 : (4 : Int32).toInt = 4 := rfl
    have v24 : (24 : Int32).toInt = 24 := rfl
    have v0 : (0 : Int32).toInt = 0 := rfl
    have ea : (a + 4).toInt = a.toInt + 4 := by
      rw [Int32.toInt_add, v4]
      exact Int.bmod_eq_of_le (by omega) (by omega)
    by_cases b : (24 : Int32) ≤ a + 4
    · have c4 : DX7_isCell (a + 4) = 0 := by
        unfold DX7_isCell
        rw [if_pos b, if_neg]
        rw [Int32.lt_iff_toInt_lt]
        omega
      unfold DX1_laidAt DX1_drawnAt
      rw [if_pos b, if_pos c4, if_pos c4]
      exact ⟨_, rfl, rfl⟩
    · have c4 : ¬ DX7_isCell (a + 4) = 0 := by
        unfold DX7_isCell
        rw [if_neg b, if_neg]
        · decide
        · rw [Int32.lt_iff_toInt_lt]
          omega
      obtain ⟨h0, h1, -⟩ := cellAt h c4
      have c5 := (cell_in c4).1
      rw [if_neg b, h0, h1, if_pos c5, if_pos c5]
      simp only [Option.bind_some]
      by_cases l : ¬ A 6 (a + 4).toNatClampNeg = -1
      · rw [if_pos l]
        exact ⟨_, rfl, rfl⟩
      · rw [if_neg l]
        by_cases d : ¬ A 5 (a + 4).toNatClampNeg = -1
        · rw [if_pos d]
          exact ⟨_, rfl, rfl⟩
        · rw [if_neg d]
          exact ⟨_, rfl, rfl⟩
  · rw [if_neg e, if_pos e]
    exact ⟨_, rfl, rfl⟩
theorem op_may {t : Nat} {I : am_mI} {J : am_mJ} {A : am_mI} {B : am_mJ} (h : am_Iv t I J A B) (a : Int32) : am_Tw (t + 20000) (DX7_may I J a) (DX8_may A B a) := by
  unfold DX7_may DX8_may
  rw [mcell]
  by_cases c : DX7_isCell a = 0
  · rw [if_neg (fun q => q c), if_pos c]
    exact .no1 h
  · obtain ⟨r, h1, h2⟩ := mayAs h c
    rw [if_pos c, if_neg c, h1, h2]
    simp only [Option.bind_some]
    by_cases e : r = 0
    · rw [if_pos e, if_pos e]
      exact .mk1 h
    · rw [if_neg e, if_neg e]
      exact .mk1 h
theorem stuffAt {t : Nat} {I : am_mI} {J : am_mJ} {A : am_mI} {B : am_mJ} (h : am_Iv t I J A B) {a : Int32} (c : ¬ DX8_isStuff A a = 0) :
    ¬ (a < 0 ∨ 8 ≤ a.toNatClampNeg) ∧ DX1_kindOf I 2 a = some (A 2 a.toNatClampNeg) ∧ DX1_colourOf I 2 a = some (A 3 a.toNatClampNeg) ∧ DX1_aOf I 2 a = some (A 4 a.toNatClampNeg) := by
  have hr := stuff_rg c
  have hn := h.nn
  have q0 : (0 : Int32).toInt = 0 := rfl
  have e : a.toNatClampNeg = a.toInt.toNat := rfl
  have c2 : ¬ (a < 0 ∨ 8 ≤ a.toNatClampNeg) := by
    rw [Int32.lt_iff_toInt_lt]
    omega
  unfold DX1_kindOf DX1_colourOf DX1_aOf
  rw [stuff_in (A := A) h.bd.n0 h.nn]
  refine ⟨c2, ?_, ?_, ?_⟩ <;> rw [if_neg c, if_pos c2]
  · rw [show I (2 + 1) = A 2 from h.bd.r0]
  · rw [show I (2 + 2) = A 3 from h.bd.r1]
  · rw [show I (2 + 3) = A 4 from h.bd.r2]
theorem op_stuffOf {t : Nat} {I : am_mI} {J : am_mJ} {A : am_mI} {B : am_mJ} (h : am_Iv t I J A B) (a w : Int32) : am_Tw (t + 20000) (DX7_stuffOf I J a w) (DX8_stuffOf A B a w) := by
  unfold DX7_stuffOf DX8_stuffOf
  rw [stuff_in (A := A) h.bd.n0 h.nn]
  have q0 : (0 : Int32).toInt = 0 := rfl
  have q5 : (2 : Int32).toInt = 2 := rfl
  by_cases c : DX8_isStuff A a = 0
  · rw [if_neg (fun q => q c), if_pos c]
    exact .no5 h
  · obtain ⟨c2, h0, h1, h2⟩ := stuffAt h c
    rw [if_pos c, if_neg c, h0, h1, h2]
    simp only [Option.bind_some, if_pos c2]
    by_cases w0 : w = 0
    · subst w0
      exact .mk1 h
    by_cases w1 : w = 1
    · subst w1
      exact .mk1 h
    by_cases w2 : w = 2
    · subst w2
      exact .mk1 h
    simp only [if_neg w0, if_neg w1, if_neg w2]
    by_cases n0 : w < 0
    · rw [if_pos n0]
      exact .no5 h
    · rw [if_neg n0, if_neg]
      · exact .no5 h
      · intro q
        rw [Int32.lt_iff_toInt_lt] at n0
        rw [Int32.le_iff_toInt_le] at q
        have ne : ∀ k : Int32, ¬ w = k → w.toInt ≠ k.toInt := fun k hk e => hk (Int32.toInt_inj.mp e)
        have e0 := ne 0 w0
        have e1 := ne 1 w1
        have e2 := ne 2 w2
        have v1 : (1 : Int32).toInt = 1 := rfl
        omega
theorem am_Iv.more1 {t : Nat} {I : am_mI} {J : am_mJ} {A : am_mI} {B : am_mJ} (h : am_Iv t I J A B) (hn : (A 0 0).toInt < 8) : am_Iv t (am_upI I 2 3 (I 2 3 + 1)) J (am_upI A 0 0 (A 0 0 + 1)) B := by
  have e : (A 0 0 + 1).toInt = (A 0 0).toInt + 1 := by
    have := h.nn
    have v1 : (1 : Int32).toInt = 1 := rfl
    rw [Int32.toInt_add, v1]
    exact Int.bmod_eq_of_le (by omega) (by omega)
  have g : am_mn (am_upI A 0 0 (A 0 0 + 1)) 0 = A 0 0 + 1 := rfl
  have hN := h.nn
  refine ⟨⟨h.bd.r0, h.bd.r1, h.bd.r2, h.bd.r3, h.bd.r4, h.bd.r5, h.bd.r6, h.bd.r7, h.bd.r8, congrArg (· + 1) h.bd.n0, h.bd.n1, h.bd.n2, h.bd.n3, h.bd.n4, h.bd.n5⟩, ⟨h.rf.q1, h.rf.q2, h.rf.q3, h.rf.q4, h.rf.q5, h.rf.q6, h.rf.q7⟩, h.ft, fun s hs => (h.sh s hs).off (am_upI_ne (by omega)) rfl rfl rfl rfl rfl rfl, h.im, h.ac, ⟨?_, h.rg.2.1, h.rg.2.2.1, h.rg.2.2.2.1, h.rg.2.2.2.2.1, h.rg.2.2.2.2.2.1, ?_, h.rg.2.2.2.2.2.2.2⟩, h.kg, h.wd, ?_, h.ot⟩
  · rw [g, e]
    omega
  · intro i hi
    obtain ⟨h1, h2, h3⟩ := h.rg.2.2.2.2.2.2.1 i hi
    have f : (am_mn A 0).toInt = (A 0 0).toInt := rfl
    rw [g, e]
    exact ⟨h1, ⟨h2.1, by have := h2.2; show (am_mr A 4 i).toInt < _; omega⟩, ⟨h3.1, by have := h3.2; show (am_mr A 5 i).toInt < _; omega⟩⟩
  · intro s hs q
    have := h.st s hs q
    show (A 14 s).toInt < (A 0 0 + 1).toInt
    omega
theorem am_room {x : Int32} (h0 : 0 ≤ x.toInt) (h1 : x.toInt < 8) : ¬ (x < 0 ∨ 8 ≤ x.toNatClampNeg) := by
  have q0 : (0 : Int32).toInt = 0 := rfl
  have e : x.toNatClampNeg = x.toInt.toNat := rfl
  rw [Int32.lt_iff_toInt_lt]
  omega
theorem addAs {t : Nat} {I : am_mI} {J : am_mJ} {A : am_mI} {B : am_mJ} (h : am_Iv t I J A B) (hn : (A 0 0).toInt < 8) {a b c : Int32} (ha : 0 ≤ a.toInt ∧ a.toInt ≤ 6) (hb : 0 ≤ b.toInt ∧ b.toInt ≤ 7) (hc : 0 ≤ c.toInt ∧ c.toInt ≤ 9) :
    ∃ (I1 A1 : am_mI), DX1_addStuff I J 2 a b c = some (A 0 0, I1, J) ∧ DX8_adds A B a b c = some (A 0 0, A1, B) ∧ am_Iv t I1 J A1 B ∧ am_Fx I I1 ∧ am_Fm A A1 ∧ A1 0 0 = A 0 0 + 1 ∧ ∀ q, q ≠ 0 → A1 0 q = A 0 q := by
  have hN := h.nn
  have g := am_room h.nn.1 hn
  have e0 : I 2 3 = A 0 0 := h.bd.n0
  have r : ¬ DX1_hasRoom I 2 = 0 := by
    unfold DX1_hasRoom
    have q0 : (0 : Int32).toInt = 0 := rfl
    have q8 : (8 : Int32).toInt = 8 := rfl
    rw [e0, if_neg, if_neg]
    · decide
    · rw [Int32.le_iff_toInt_le]; omega
    · rw [Int32.lt_iff_toInt_lt]; omega
  have g1 : ¬ (I 2 3 < 0 ∨ 8 ≤ (I 2 3).toNatClampNeg) := by rw [e0]; exact g
  have gk : (A 0 0).toNatClampNeg < 8 := by
    have e : (A 0 0).toNatClampNeg = (A 0 0).toInt.toNat := rfl
    omega
  have h1 := ((((h.row0 (k := (A 0 0).toNatClampNeg) ha gk).row1 (k := (A 0 0).toNatClampNeg) hb gk).row2 (k := (A 0 0).toNatClampNeg) hc gk).more1 hn)
  refine ⟨_, _, ?_, ?_, h1, ((((am_Fx.me I).up (by decide)).up (by decide)).up (by decide)).up (by decide), ((((am_Fm.me A).up (by decide)).up (by decide)).up (by decide)).up (by decide), am_upI_yes, fun q hq => am_upI_no hq⟩
  · have q : DX1_addStuff I J 2 a b c = some (I 2 3 + 1 - 1, am_upI (am_upI (am_upI (am_upI I 3 (I 2 3).toNatClampNeg a) 4 (I 2 3).toNatClampNeg b) 5 (I 2 3).toNatClampNeg c) 2 3 (I 2 3 + 1), J) := by
      unfold DX1_addStuff
      exact (if_pos r).trans ((if_pos g1).trans ((if_pos g1).trans (if_pos g1)))
    rw [q, e0, Int32.add_sub_cancel]
    show _ = some (A 0 0, am_upI (am_upI (am_upI (am_upI I 3 (A 0 0).toNatClampNeg a) 4 (A 0 0).toNatClampNeg b) 5 (A 0 0).toNatClampNeg c) 2 3 (I 2 3 + 1), J)
    rw [e0]
  · unfold DX8_adds
    exact (if_pos g).trans ((if_pos g).trans (if_pos g))
theorem op_stuff {t : Nat} {I : am_mI} {J : am_mJ} {A : am_mI} {B : am_mJ} (h : am_Iv t I J A B) (a b c : Int32) : am_Tw (t + 20000) (DX7_stuff I J a b c) (DX8_stuff A B a b c) := by
  unfold DX7_stuff DX8_stuff
  have q0 : (0 : Int32).toInt = 0 := rfl
  have q6 : (6 : Int32).toInt = 6 := rfl
  have q7 : (7 : Int32).toInt = 7 := rfl
  have q8 : (8 : Int32).toInt = 8 := rfl
  have q9 : (9 : Int32).toInt = 9 := rfl
  have hN := h.nn
  by_cases a0 : a < 0
  · rw [if_pos a0, if_pos a0]; exact .no1 h
  rw [if_neg a0, if_neg a0]
  have ea : a < (7 : Int32) ↔ a ≤ (6 : Int32) := by
    rw [Int32.lt_iff_toInt_lt, Int32.le_iff_toInt_le]; omega
  by_cases a1 : a < (7 : Int32)
  · rw [if_pos a1, if_pos (ea.mp a1)]
    by_cases b0 : b < 0
    · rw [if_pos b0, if_pos b0]; exact .no6 h
    rw [if_neg b0, if_neg b0]
    have eb : (8 : Int32) ≤ b ↔ (7 : Int32) < b := by
      rw [Int32.lt_iff_toInt_lt, Int32.le_iff_toInt_le]; omega
    by_cases b1 : (8 : Int32) ≤ b
    · rw [if_pos b1, if_pos (eb.mp b1)]; exact .no6 h
    rw [if_neg b1, if_neg (fun q => b1 (eb.mpr q))]
    by_cases c0 : c < 0
    · rw [if_pos c0, if_pos c0]; exact .no6 h
    rw [if_neg c0, if_neg c0]
    by_cases c1 : c ≤ (9 : Int32)
    · rw [if_pos c1, if_pos c1]
      have er : ¬ DX1_hasRoom I 2 = 0 ↔ ¬ A 0 0 = 8 := by
        unfold DX1_hasRoom
        rw [show I 2 3 = A 0 0 from h.bd.n0, if_neg (by rw [Int32.lt_iff_toInt_lt]; omega)]
        by_cases q : A 0 0 = 8
        · rw [if_pos (by rw [q]; decide)]
          exact ⟨fun f => absurd rfl f, fun f => absurd q f⟩
        · rw [if_neg]
          · exact ⟨fun _ => q, fun _ => by decide⟩
          · intro f
            rw [Int32.le_iff_toInt_le] at f
            exact q (Int32.toInt_inj.mp (by omega))
      by_cases n : ¬ A 0 0 = 8
      · rw [if_pos n, if_pos (er.mpr n)]
        rw [Int32.lt_iff_toInt_lt] at a0 a1 b0 c0
        rw [Int32.le_iff_toInt_le] at b1 c1
        have hn : (A 0 0).toInt < 8 := by
          have : (A 0 0).toInt ≠ (8 : Int32).toInt := fun f => n (Int32.toInt_inj.mp f)
          omega
        obtain ⟨I1, A1, h1, h2, h3, -⟩ := addAs h hn (a := a) (b := b) (c := c) (by omega) (by omega) (by omega)
        rw [h1, h2]
        exact .mk1 h3
      · rw [if_neg n, if_neg (fun q => n (er.mp q))]
        exact .no7 h
    · rw [if_neg c1, if_neg c1]; exact .no6 h
  · rw [if_neg a1, if_neg (fun q => a1 (ea.mpr q))]; exact .no1 h
