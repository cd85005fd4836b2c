/-! SENTENCES: hours -/
/-- whether a cell lies in the sun -/
def am_sy (b : Nat) (v : Int32) : Bool := DX1_isInSun (Int32.ofInt (b : Int)) v == some 1
/-- n hours more for the laid cells ahead of k -/
def am_ad (M : am_mI) (L S H : Nat) (v : Int32) (k : Nat) (n : Int32) : am_mI := fun a b =>
  if b < k ∧ ¬ M L b = -1 ∧ (a = S ∧ am_sy b v = true ∨ a = H ∧ am_sy b v = false) then M a b + n else M a b
theorem am_ad.none (M : am_mI) (L S H : Nat) (v n : Int32) : am_ad M L S H v 0 n = M := by
  funext a b
  unfold am_ad
  rw [if_neg (by omega)]
theorem am_ad.off {M : am_mI} {L S H : Nat} {v : Int32} {k : Nat} {n : Int32} {a : Nat} (h1 : a ≠ S) (h2 : a ≠ H) : am_ad M L S H v k n a = M a := by
  funext b
  unfold am_ad
  rw [if_neg]
  rintro ⟨-, -, ⟨q, -⟩ | ⟨q, -⟩⟩
  · exact h1 q
  · exact h2 q
theorem am_ad.here {M : am_mI} {L S H : Nat} {v : Int32} {k : Nat} {n : Int32} {a b : Nat} (h : k ≤ b) : am_ad M L S H v k n a b = M a b := by
  unfold am_ad
  rw [if_neg (by omega)]
theorem am_ad.bare {M : am_mI} {L S H : Nat} {v : Int32} {k : Nat} {n : Int32} (l : M L k = -1) : am_ad M L S H v (k + 1) n = am_ad M L S H v k n := by
  funext a b
  unfold am_ad
  by_cases q : b = k
  · rw [if_neg (fun z => z.2.1 (by rw [q]; exact l)), if_neg (by omega)]
  · have e : (b < k + 1) = (b < k) := propext (by omega)
    simp only [e]
theorem am_ad.sun {M : am_mI} {L S H : Nat} {v : Int32} {k : Nat} {n : Int32} (hn : S ≠ H) (l : ¬ M L k = -1) (s : am_sy k v = true) : am_ad M L S H v (k + 1) n = am_upI (am_ad M L S H v k n) S k (am_ad M L S H v k n S k + n) := by
  funext a b
  rw [am_ad.here (Nat.le_refl k)]
  unfold am_upI
  by_cases q : b = k
  · by_cases p : a = S
    · rw [if_pos ⟨p, q⟩, p, q]
      unfold am_ad
      rw [if_pos ⟨by omega, l, Or.inl ⟨rfl, s⟩⟩]
    · rw [if_neg (fun z => p z.1)]
      unfold am_ad
      rw [if_neg, if_neg (by omega)]
      rintro ⟨-, -, ⟨z, -⟩ | ⟨-, z⟩⟩
      · exact p z
      · rw [q, s] at z
        exact absurd z (by decide)
  · rw [if_neg (fun z => q z.2)]
    unfold am_ad
    have e : (b < k + 1) = (b < k) := propext (by omega)
    simp only [e]
theorem am_ad.shade {M : am_mI} {L S H : Nat} {v : Int32} {k : Nat} {n : Int32} (hn : S ≠ H) (l : ¬ M L k = -1) (s : am_sy k v = false) : am_ad M L S H v (k + 1) n = am_upI (am_ad M L S H v k n) H k (am_ad M L S H v k n H k + n) := by
  funext a b
  rw [am_ad.here (Nat.le_refl k)]
  unfold am_upI
  by_cases q : b = k
  · by_cases p : a = H
    · rw [if_pos ⟨p, q⟩, p, q]
      unfold am_ad
      rw [if_pos ⟨by omega, l, Or.inr ⟨rfl, s⟩⟩]
    · rw [if_neg (fun z => p z.1)]
      unfold am_ad
      rw [if_neg, if_neg (by omega)]
      rintro ⟨-, -, ⟨-, z⟩ | ⟨z, -⟩⟩
      · rw [q, s] at z
        exact absurd z (by decide)
      · exact p z
  · rw [if_neg (fun z => q z.2)]
    unfold am_ad
    have e : (b < k + 1) = (b < k) := propext (by omega)
    simp only [e]
theorem sy_of {A : am_mI} {c v : Int32} (hc : 0 ≤ c.toInt ∧ c.toInt < 24) (hv : 0 ≤ v.toInt ∧ v.toInt ≤ 2) (ev : A 0 1 = v) :
    (am_sy c.toNatClampNeg v = false ∧ DX1_isInSun c v = some 0 ∧ DX8_inSun A c = some 0) ∨ (am_sy c.toNatClampNeg v = true ∧ DX1_isInSun c v = some 1 ∧ DX8_inSun A c = some 1) := by
  obtain ⟨q, q1, q2, q3⟩ := sunAs hc hv ev
  have e : Int32.ofInt (c.toNatClampNeg : Int) = c := by
    show Int32.ofInt ((c.toInt.toNat : Nat) : Int) = c
    rw [Int.toNat_of_nonneg hc.1, Int32.ofInt_toInt]
  unfold am_sy
  rw [e, q1, q2]
  rcases q3 with rfl | rfl
  · exact Or.inl ⟨by decide, rfl, rfl⟩
  · exact Or.inr ⟨by decide, rfl, rfl⟩
theorem LX1_passHours_s0 (n : Nat) (I : (Nat → Nat → Int32)) (J : (Nat → Nat → Int64)) (o : Nat) (x1 : Int32) (x2 : Int32) : LX1_passHours (n + 1) 0 I J o x1 x2 =
    if (24 : Int32) ≤ x2 then
      LX1_passHours n 1 I J o x1 ((0 : Int32))
    else
      if ¬ (x2 < 0 ∨ 24 ≤ (x2).toNatClampNeg) then
        if ¬ (I (o + 5) (x2).toNatClampNeg) = (-1 : Int32) then
          (DX1_isInSun x2 ((I o 10))).bind fun q3 =>
          if q3 = 0 then
            if ¬ (x2 < 0 ∨ 24 ≤ (x2).toNatClampNeg) then
              if ¬ (x2 < 0 ∨ 24 ≤ (x2).toNatClampNeg) then
                LX1_passHours n 0 ((am_upI I (o + 8) (x2).toNatClampNeg ((I (o + 8) (x2).toNatClampNeg) + x1))) J o x1 ((x2 + (1 : Int32)))
              else none
            else none
          else
            if ¬ (x2 < 0 ∨ 24 ≤ (x2).toNatClampNeg) then
              if ¬ (x2 < 0 ∨ 24 ≤ (x2).toNatClampNeg) then
                LX1_passHours n 0 ((am_upI I (o + 7) (x2).toNatClampNeg ((I (o + 7) (x2).toNatClampNeg) + x1))) J o x1 ((x2 + (1 : Int32)))
              else none
            else none
        else
          LX1_passHours n 0 I J o x1 ((x2 + (1 : Int32)))
      else none := rfl
theorem LX1_passHours_s1 (n : Nat) (I : (Nat → Nat → Int32)) (J : (Nat → Nat → Int64)) (o : Nat) (x1 : Int32) (x2 : Int32) : LX1_passHours (n + 1) 1 I J o x1 x2 =
    if x1 ≤ x2 then
      some ((0 : Int32), (am_upI I o 12 ((I o 12) + x1)), J)
    else
      (DX1_dryForAnHour I J o).bind fun q4 =>
      LX1_passHours n 1 q4.2.1 q4.2.2 o x1 ((x2 + (1 : Int32))) := rfl
theorem LX8_goes_s0 (n : Nat) (I : (Nat → Nat → Int32)) (J : (Nat → Nat → Int64)) (x1 : Int32) (x2 : Int32) (x3 : Int32) : LX8_goes (n + 1) 0 I J x1 x2 x3 =
    if x1 ≤ x2 then
      some ((0 : Int32), I, J)
    else
      LX8_goes n 1 I J x1 x2 ((0 : Int32)) := rfl
theorem LX8_goes_s1 (n : Nat) (I : (Nat → Nat → Int32)) (J : (Nat → Nat → Int64)) (x1 : Int32) (x2 : Int32) (x3 : Int32) : LX8_goes (n + 1) 1 I J x1 x2 x3 =
    if (24 : Int32) ≤ x3 then
      if ¬ (((am_upI I 0 2 (DX8_dries I ((I 0 2))))) 0 2) = 0 then
        (some (am_upI ((am_upI I 0 2 (DX8_dries I ((I 0 2))))) 0 3 ((((am_upI I 0 2 (DX8_dries I ((I 0 2))))) 0 3) + (1 : Int32)))).bind fun I4 =>
        LX8_goes n 0 I4 J x1 ((x2 + (1 : Int32))) 0
      else
        (some (am_upI ((am_upI I 0 2 (DX8_dries I ((I 0 2))))) 0 4 ((((am_upI I 0 2 (DX8_dries I ((I 0 2))))) 0 4) + (1 : Int32)))).bind fun I5 =>
        LX8_goes n 0 ((am_upI I5 0 3 ((I5 0 3) + (1 : Int32)))) J x1 ((x2 + (1 : Int32))) 0
    else
      if ¬ (x3 < 0 ∨ 24 ≤ (x3).toNatClampNeg) then
        if ¬ (I 6 (x3).toNatClampNeg) = (-1 : Int32) then
          (DX8_inSun I x3).bind fun q6 =>
          if q6 = 0 then
            if ¬ (x3 < 0 ∨ 24 ≤ (x3).toNatClampNeg) then
              if ¬ (x3 < 0 ∨ 24 ≤ (x3).toNatClampNeg) then
                LX8_goes n 1 ((am_upI I 9 (x3).toNatClampNeg ((I 9 (x3).toNatClampNeg) + (1 : Int32)))) J x1 x2 ((x3 + (1 : Int32)))
              else none
            else none
          else
            if ¬ (x3 < 0 ∨ 24 ≤ (x3).toNatClampNeg) then
              if ¬ (x3 < 0 ∨ 24 ≤ (x3).toNatClampNeg) then
                LX8_goes n 1 ((am_upI I 8 (x3).toNatClampNeg ((I 8 (x3).toNatClampNeg) + (1 : Int32)))) J x1 x2 ((x3 + (1 : Int32)))
              else none
            else none
        else
          LX8_goes n 1 I J x1 x2 ((x3 + (1 : Int32)))
      else none := rfl
theorem xcells {I : am_mI} {J : am_mJ} {n : Int32} (hv : 0 ≤ (I 2 10).toInt ∧ (I 2 10).toInt ≤ 2) : ∀ (k m : Nat) (x : Int32), 0 ≤ x.toInt → x.toInt + k = 24 →
    LX1_passHours (m + k + 1) 0 (am_ad I 7 9 10 (I 2 10) x.toNatClampNeg n) J 2 n x = LX1_passHours m 1 (am_ad I 7 9 10 (I 2 10) 24 n) J 2 n 0 := by
  intro k
  induction k with
  | zero =>
    intro m x h0 h1
    have e : x.toNatClampNeg = x.toInt.toNat := rfl
    have q : (24 : Int32) ≤ x := by ((try simp only [Int32.lt_iff_toInt_lt, Int32.le_iff_toInt_le, Int32.reduceToInt, ← Int32.toNat_toInt, ← Int32.toInt_inj] at *) <;> omega)
    rw [LX1_passHours_s0, if_pos q, show x.toNatClampNeg = 24 by omega]
  | succ k ih =>
    intro m x h0 h1
    have e : x.toNatClampNeg = x.toInt.toNat := rfl
    have q : ¬ (24 : Int32) ≤ x := by ((try simp only [Int32.lt_iff_toInt_lt, Int32.le_iff_toInt_le, Int32.reduceToInt, ← Int32.toNat_toInt, ← Int32.toInt_inj] at *) <;> omega)
    have x1 : (x + 1).toInt = x.toInt + 1 := i32_succ (n := 24) (by omega) (by omega) (by omega)
    have x2 : (x + 1).toNatClampNeg = x.toNatClampNeg + 1 := by
      have e2 : (x + 1).toNatClampNeg = (x + 1).toInt.toNat := rfl
      omega
    have g : ¬ (x < 0 ∨ 24 ≤ x.toNatClampNeg) := am_in (n := 24) (by ((try simp only [Int32.lt_iff_toInt_lt, Int32.le_iff_toInt_le, Int32.reduceToInt, ← Int32.toNat_toInt, ← Int32.toInt_inj] at *) <;> omega)) (by omega)
    have hs := ih m (x + 1) (by omega) (by omega)
    rw [x2] at hs
    rw [show m + (k + 1) + 1 = (m + k + 1) + 1 from rfl, LX1_passHours_s0, if_neg q, ← hs]
    simp only [if_pos g]
    rw [show (2 : Nat) + 5 = 7 from rfl, show (2 : Nat) + 7 = 9 from rfl, show (2 : Nat) + 8 = 10 from rfl, am_ad.off (a := 7) (by decide) (by decide), am_ad.off (a := 2) (by decide) (by decide)]
    by_cases l : I 7 x.toNatClampNeg = -1
    · rw [if_neg (not_not_intro l), am_ad.bare l]
    · rw [if_pos l]
      rcases sy_of (A := fun _ _ => I 2 10) (c := x) ⟨h0, by omega⟩ hv rfl with ⟨s, s1, -⟩ | ⟨s, s1, -⟩
      · rw [s1, Option.bind_some, if_pos rfl, am_ad.shade (by decide) l s]
      · rw [s1, Option.bind_some, if_neg (by decide), am_ad.sun (by decide) l s]
/-- the clay dries for an hour: x's memory behind it -/
def am_d1 (I : am_mI) : am_mI := am_upI I 2 11 (if (0 : Int32) < I 2 11 - DX1_driedByAnHour I 2 then I 2 11 - DX1_driedByAnHour I 2 else 0)
def am_dr (I : am_mI) : am_mI := if ¬ am_d1 I 2 11 = 0 then am_d1 I else am_upI (am_d1 I) 2 13 (am_d1 I 2 13 + 1)
theorem am_dr.is (I : am_mI) (J : am_mJ) : DX1_dryForAnHour I J 2 = some (0, am_dr I, J) := by
  unfold DX1_dryForAnHour am_dr
  rw [Option.bind_some]
  by_cases c : ¬ am_d1 I 2 11 = 0
  · rw [if_pos c]
    exact if_pos c
  · rw [if_neg c]
    exact if_neg c
theorem am_dr.off {I : am_mI} {a : Nat} (h : a ≠ 2) : am_dr I a = I a := by
  have e : am_d1 I a = I a := am_upI_ne h
  unfold am_dr
  split
  · exact e
  · rw [am_upI_ne h, e]
theorem am_d1.same {I I' : am_mI} (e : I 2 = I' 2) : am_d1 I 2 = am_d1 I' 2 := by
  unfold am_d1 DX1_driedByAnHour
  rw [e, am_upI_at, am_upI_at, e]
theorem am_dr.same {I I' : am_mI} (e : I 2 = I' 2) : am_dr I 2 = am_dr I' 2 := by
  have e1 := am_d1.same e
  unfold am_dr
  rw [e1]
  split
  · exact e1
  · rw [am_upI_at, am_upI_at, e1]
theorem am_upI_swap {I : am_mI} {h k k' : Nat} {v w : Int32} (n : k ≠ k') : am_upI (am_upI I h k v) h k' w = am_upI (am_upI I h k' w) h k v := by
  funext a b
  unfold am_upI
  by_cases p : a = h ∧ b = k'
  · rw [if_pos p, if_neg (fun q => n (q.2.symm.trans p.2)), if_pos p]
  · rw [if_neg p, if_neg p]
theorem am_dr.slot {I : am_mI} {k : Nat} (h1 : k ≠ 11) (h2 : k ≠ 13) : am_dr I 2 k = I 2 k := by
  have e : am_d1 I 2 k = I 2 k := am_upI_no h1
  unfold am_dr
  split
  · exact e
  · rw [am_upI_no h2, e]
theorem am_d1.up {I : am_mI} {w : Int32} : am_d1 (am_upI I 2 12 w) = am_upI (am_d1 I) 2 12 w := by
  unfold am_d1 DX1_driedByAnHour
  rw [am_upI_no (k := 12) (b := 11) (by decide), am_upI_no (k := 12) (b := 10) (by decide), am_upI_swap (k := 12) (k' := 11) (by decide)]
theorem am_dr.up {I : am_mI} {w : Int32} : am_dr (am_upI I 2 12 w) = am_upI (am_dr I) 2 12 w := by
  unfold am_dr
  rw [am_d1.up, am_upI_no (k := 12) (b := 11) (by decide)]
  split
  · rfl
  · rw [am_upI_no (k := 12) (b := 13) (by decide), am_upI_swap (k := 12) (k' := 13) (by decide)]
def am_dn : Nat → am_mI → am_mI
  | 0, I => I
  | j + 1, I => am_dr (am_dn j I)
theorem am_dn.off {I : am_mI} {a : Nat} (h : a ≠ 2) : ∀ j, am_dn j I a = I a
  | 0 => rfl
  | j + 1 => (am_dr.off h).trans (am_dn.off h j)
theorem am_dn.same {I I' : am_mI} (e : I 2 = I' 2) : ∀ j, am_dn j I 2 = am_dn j I' 2
  | 0 => e
  | j + 1 => am_dr.same (am_dn.same e j)
theorem am_dn.slot {I : am_mI} {k : Nat} (h1 : k ≠ 11) (h2 : k ≠ 13) : ∀ j, am_dn j I 2 k = I 2 k
  | 0 => rfl
  | j + 1 => (am_dr.slot h1 h2).trans (am_dn.slot h1 h2 j)
theorem xdries {I : am_mI} {J : am_mJ} {n : Int32} (hb : n.toInt ≤ 1000) : ∀ (k m j : Nat) (x : Int32), 0 ≤ x.toInt → x.toInt + k = n.toInt → j + k = n.toInt.toNat →
    LX1_passHours (m + k + 1) 1 (am_dn j I) J 2 n x = some (0, am_upI (am_dn (j + k) I) 2 12 (am_dn (j + k) I 2 12 + n), J) := by
  intro k
  induction k with
  | zero =>
    intro m j x h0 h1 h2
    have q : n ≤ x := by ((try simp only [Int32.lt_iff_toInt_lt, Int32.le_iff_toInt_le, Int32.reduceToInt, ← Int32.toNat_toInt, ← Int32.toInt_inj] at *) <;> omega)
    rw [LX1_passHours_s1, if_pos q]
    rfl
  | succ k ih =>
    intro m j x h0 h1 h2
    have hn := Int32.toInt_lt n
    have q : ¬ n ≤ x := by
      rw [Int32.le_iff_toInt_le]
      omega
    have x1 : (x + 1).toInt = x.toInt + 1 := i32_succ (n := n.toInt) (by omega) (by omega) (by omega)
    have hs := ih m (j + 1) (x + 1) (by omega) (by omega) (by omega)
    rw [show m + (k + 1) + 1 = (m + k + 1) + 1 from rfl, LX1_passHours_s1, if_neg q, am_dr.is, Option.bind_some, show j + (k + 1) = j + 1 + k from by omega]
    exact hs
/-- x's memory behind j hours -/
def am_hx (I : am_mI) (j : Nat) (n : Int32) : am_mI := am_upI (am_dn j (am_ad I 7 9 10 (I 2 10) 24 n)) 2 12 (I 2 12 + n)
theorem xhours {I : am_mI} {J : am_mJ} {n : Int32} (hv : 0 ≤ (I 2 10).toInt ∧ (I 2 10).toInt ≤ 2) (h0 : 0 ≤ n.toInt) (h1 : n.toInt ≤ 1000) : DX1_passHours I J 2 n = some (0, am_hx I n.toInt.toNat n, J) := by
  unfold DX1_passHours
  have f : am_FU = 1000000 := rfl
  have e1 := xcells (I := I) (J := J) (n := n) hv 24 (am_FU - 25) 0 (by decide) (by decide)
  have z0 : (0 : Int32).toNatClampNeg = 0 := rfl
  rw [z0, am_ad.none, show am_FU - 25 + 24 + 1 = am_FU by omega] at e1
  have z : (0 : Int32).toInt = 0 := rfl
  have e2 := xdries (I := am_ad I 7 9 10 (I 2 10) 24 n) (J := J) (n := n) h1 n.toInt.toNat (am_FU - 25 - n.toInt.toNat - 1) 0 0 (by decide) (by omega) (by omega)
  rw [show am_FU - 25 - n.toInt.toNat - 1 + n.toInt.toNat + 1 = am_FU - 25 by omega] at e2
  have e3 : am_dn 0 (am_ad I 7 9 10 (I 2 10) 24 n) = am_ad I 7 9 10 (I 2 10) 24 n := rfl
  rw [e3] at e2
  rw [e1, e2, Nat.zero_add, am_dn.slot (by decide) (by decide), am_ad.off (by decide) (by decide)]
  rfl
/-- one hour of x's -/
def am_hr (I : am_mI) : am_mI := am_upI (am_dr (am_ad I 7 9 10 (I 2 10) 24 1)) 2 12 (am_dr (am_ad I 7 9 10 (I 2 10) 24 1) 2 12 + 1)
theorem am_hx.none (I : am_mI) : am_hx I 0 0 = I := by
  unfold am_hx
  have e : am_ad I 7 9 10 (I 2 10) 24 0 = I := by
    funext a b
    unfold am_ad
    split
    · exact Int32.add_zero _
    · rfl
  rw [e, Int32.add_zero]
  exact am_upI_self
theorem am_hx.more (I : am_mI) (j : Nat) (n : Int32) : am_hr (am_hx I j n) = am_hx I (j + 1) (n + 1) := by
  have e2 : am_hx I j n 2 10 = I 2 10 := by
    unfold am_hx
    rw [am_upI_no (by decide), am_dn.slot (by decide) (by decide), am_ad.off (by decide) (by decide)]
  have eo : ∀ a, a ≠ 2 → am_hx I j n a = am_ad I 7 9 10 (I 2 10) 24 n a := by
    intro a ha
    unfold am_hx
    rw [am_upI_ne ha, am_dn.off ha]
  have e7 : am_hx I j n 7 = I 7 := (eo 7 (by decide)).trans (am_ad.off (by decide) (by decide))
  unfold am_hr
  rw [e2]
  funext a
  by_cases p : a = 2
  · subst p
    have d2 : am_ad (am_hx I j n) 7 9 10 (I 2 10) 24 1 2 = am_hx I j n 2 := am_ad.off (by decide) (by decide)
    rw [am_upI_at, am_dr.same d2]
    rw [am_dr.slot (I := am_hx I j n) (k := 12) (by decide) (by decide)]
    unfold am_hx
    rw [am_dr.up, am_upI_yes]
    have d3 : am_ad I 7 9 10 (I 2 10) 24 n 2 = am_ad I 7 9 10 (I 2 10) 24 (n + 1) 2 := (am_ad.off (by decide) (by decide)).trans (am_ad.off (by decide) (by decide)).symm
    have d4 := am_dn.same d3 (j + 1)
    have d5 : am_dr (am_dn j (am_ad I 7 9 10 (I 2 10) 24 n)) 2 = am_dn (j + 1) (am_ad I 7 9 10 (I 2 10) 24 (n + 1)) 2 := d4
    funext b
    rw [am_upI_at]
    dsimp only
    by_cases q : b = 12
    · rw [if_pos q, Int32.add_assoc, q, am_upI_yes]
    · rw [if_neg q, if_neg q, am_upI_no q, d5]
  · rw [am_upI_ne p, am_dr.off p]
    have r : am_hx I (j + 1) (n + 1) a = am_ad I 7 9 10 (I 2 10) 24 (n + 1) a := by
      unfold am_hx
      rw [am_upI_ne p, am_dn.off p]
    rw [r]
    funext b
    unfold am_ad
    rw [e7, eo a p]
    unfold am_ad
    split
    · rw [Int32.add_assoc]
    · rfl
theorem am_Iv.num3 {t : Nat} {I : am_mI} {J : am_mJ} {A : am_mI} {B : am_mJ} (h : am_Iv t I J A B) {v : Int32} (hv : 0 ≤ v.toInt ∧ v.toInt ≤ t) : am_Iv t (am_upI I 2 12 v) J (am_upI A 0 3 v) B :=
  ⟨⟨h.bd.r0, h.bd.r1, h.bd.r2, h.bd.r3, h.bd.r4, h.bd.r5, h.bd.r6, h.bd.r7, h.bd.r8, h.bd.n0, h.bd.n1, h.bd.n2, rfl, h.bd.n4, h.bd.n5⟩, ⟨h.rf.q1, h.rf.q2, h.rf.q3, h.rf.q4, h.rf.q5, h.rf.q6, h.rf.q7⟩, h.ft, fun s hs => (h.sh s hs).off (am_upI_ne (by omega)) rfl rfl rfl rfl rfl rfl, h.im, h.ac, ⟨h.rg.1, h.rg.2.1, h.rg.2.2.1, hv, h.rg.2.2.2.2⟩, h.kg, h.wd, h.st, h.ot⟩
theorem am_Iv.num4 {t : Nat} {I : am_mI} {J : am_mJ} {A : am_mI} {B : am_mJ} (h : am_Iv t I J A B) {v : Int32} (hv : 0 ≤ v.toInt ∧ v.toInt ≤ t) : am_Iv t (am_upI I 2 13 v) J (am_upI A 0 4 v) B :=
  ⟨⟨h.bd.r0, h.bd.r1, h.bd.r2, h.bd.r3, h.bd.r4, h.bd.r5, h.bd.r6, h.bd.r7, h.bd.r8, h.bd.n0, h.bd.n1, h.bd.n2, h.bd.n3, rfl, h.bd.n5⟩, ⟨h.rf.q1, h.rf.q2, h.rf.q3, h.rf.q4, h.rf.q5, h.rf.q6, h.rf.q7⟩, h.ft, fun s hs => (h.sh s hs).off (am_upI_ne (by omega)) rfl rfl rfl rfl rfl rfl, h.im, h.ac, ⟨h.rg.1, h.rg.2.1, h.rg.2.2.1, h.rg.2.2.2.1, hv, h.rg.2.2.2.2.2⟩, h.kg, h.wd, h.st, h.ot⟩
theorem i32_one {x : Int32} {t : Nat} (ht : t ≤ 61440000) (h0 : 0 ≤ x.toInt) (h1 : x.toInt ≤ t) : (x + 1).toInt = x.toInt + 1 := i32_succ (n := 61440001) (by omega) (by omega) (by omega)
theorem adAs {t : Nat} {I : am_mI} {J : am_mJ} {A : am_mI} {B : am_mJ} (h : am_Iv t I J A B) (ht : t ≤ 61440000) : ∀ k : Nat, k ≤ 24 → am_Iv (t + 1) (am_ad I 7 9 10 (I 2 10) k 1) J (am_ad A 6 8 9 (A 0 1) k 1) B
  | 0, _ => by
    rw [am_ad.none, am_ad.none]
    exact h.more (Nat.le_succ t)
  | k + 1, hk => by
    have g := adAs h ht k (by omega)
    have e1 : I 2 10 = A 0 1 := h.bd.n1
    have e7 : I 7 = A 6 := h.bd.r4
    by_cases l : A 6 k = -1
    · rw [am_ad.bare (M := A) l, am_ad.bare (M := I) (by rw [e7]; exact l)]
      exact g
    · have r := h.rg.2.2.2.2.2.2.2 k (by omega)
      by_cases s : am_sy k (A 0 1) = true
      · have b0 : 0 ≤ (A 8 k).toInt ∧ (A 8 k).toInt ≤ t := r.1
        have b1 := i32_one ht b0.1 b0.2
        have e9 : I 9 k = A 8 k := congrFun h.bd.r6 k
        rw [am_ad.sun (M := A) (by decide) l s, am_ad.sun (M := I) (by decide) (by rw [e7]; exact l) (by rw [e1]; exact s), am_ad.here (M := I) (Nat.le_refl k), am_ad.here (M := A) (Nat.le_refl k), e9]
        exact g.row6 (k := k) (by omega) (by omega)
      · have s2 : am_sy k (A 0 1) = false := by
          cases q : am_sy k (A 0 1)
          · rfl
          · exact absurd q s
        have b0 : 0 ≤ (A 9 k).toInt ∧ (A 9 k).toInt ≤ t := r.2.1
        have b1 := i32_one ht b0.1 b0.2
        have e9 : I 10 k = A 9 k := congrFun h.bd.r7 k
        rw [am_ad.shade (M := A) (by decide) l s2, am_ad.shade (M := I) (by decide) (by rw [e7]; exact l) (by rw [e1]; exact s2), am_ad.here (M := I) (Nat.le_refl k), am_ad.here (M := A) (Nat.le_refl k), e9]
        exact g.row7 (k := k) (by omega) (by omega)
theorem mcells {A : am_mI} {B : am_mJ} {n i : Int32} (hv : 0 ≤ (A 0 1).toInt ∧ (A 0 1).toInt ≤ 2) : ∀ (k m : Nat) (x : Int32), 0 ≤ x.toInt → x.toInt + k = 24 →
    LX8_goes (m + k + 1) 1 (am_ad A 6 8 9 (A 0 1) x.toNatClampNeg 1) B n i x = LX8_goes (m + 1) 1 (am_ad A 6 8 9 (A 0 1) 24 1) B n i 24 := by
  intro k
  induction k with
  | zero =>
    intro m x h0 h1
    have e : x.toNatClampNeg = x.toInt.toNat := rfl
    have q : x = 24 := by ((try simp only [Int32.lt_iff_toInt_lt, Int32.le_iff_toInt_le, Int32.reduceToInt, ← Int32.toNat_toInt, ← Int32.toInt_inj] at *) <;> omega)
    rw [q]
    rfl
  | succ k ih =>
    intro m x h0 h1
    have e : x.toNatClampNeg = x.toInt.toNat := rfl
    have q : ¬ (24 : Int32) ≤ x := by ((try simp only [Int32.lt_iff_toInt_lt, Int32.le_iff_toInt_le, Int32.reduceToInt, ← Int32.toNat_toInt, ← Int32.toInt_inj] at *) <;> omega)
    have x1 : (x + 1).toInt = x.toInt + 1 := i32_succ (n := 24) (by omega) (by omega) (by omega)
    have x2 : (x + 1).toNatClampNeg = x.toNatClampNeg + 1 := by
      have e2 : (x + 1).toNatClampNeg = (x + 1).toInt.toNat := rfl
      omega
    have g : ¬ (x < 0 ∨ 24 ≤ x.toNatClampNeg) := am_in (n := 24) (by ((try simp only [Int32.lt_iff_toInt_lt, Int32.le_iff_toInt_le, Int32.reduceToInt, ← Int32.toNat_toInt, ← Int32.toInt_inj] at *) <;> omega)) (by omega)
    have hs := ih m (x + 1) (by omega) (by omega)
    rw [x2] at hs
    rw [show m + (k + 1) + 1 = (m + k + 1) + 1 from rfl, LX8_goes_s1, if_neg q, ← hs]
    simp only [if_pos g]
    rw [am_ad.off (a := 6) (by decide) (by decide)]
    by_cases l : A 6 x.toNatClampNeg = -1
    · rw [if_neg (not_not_intro l), am_ad.bare l]
    · rw [if_pos l]
      have z1 : am_ad A 6 8 9 (A 0 1) x.toNatClampNeg 1 0 1 = A 0 1 := congrFun (am_ad.off (by decide) (by decide)) 1
      rcases sy_of (A := am_ad A 6 8 9 (A 0 1) x.toNatClampNeg 1) (c := x) ⟨h0, by omega⟩ hv z1 with ⟨s, -, s1⟩ | ⟨s, -, s1⟩
      · rw [s1, Option.bind_some, if_pos rfl, am_ad.shade (by decide) l s]
      · rw [s1, Option.bind_some, if_neg (by decide), am_ad.sun (by decide) l s]
theorem am_ad.fx {I : am_mI} {v n : Int32} {k : Nat} : am_Fx I (am_ad I 7 9 10 v k n) := fun a ha => am_ad.off (by omega) (by omega)
theorem am_ad.fm {I : am_mI} {v n : Int32} {k : Nat} : am_Fm I (am_ad I 6 8 9 v k n) := fun a ha => am_ad.off (by omega) (by omega)
/-- m's memory behind an hour's drying -/
theorem goes_hour {t : Nat} {I : am_mI} {J : am_mJ} {A : am_mI} {B : am_mJ} (h : am_Iv t I J A B) (ht : t + 1 ≤ 61440000) {n i : Int32} (hn : ¬ n ≤ i) (m : Nat) : ∃ A1 : am_mI, LX8_goes (m + 26) 0 A B n i 0 = LX8_goes m 0 A1 B n (i + 1) 0 ∧ am_Iv (t + 1) (am_hr I) J A1 B ∧ am_Fm A A1 ∧ (∀ k, k < 2 ∨ 4 < k → A1 0 k = A 0 k) := by
  have h1 := adAs h (by omega) 24 (Nat.le_refl 24)
  have hv := h.sided.2
  have e1 : I 2 10 = A 0 1 := h.bd.n1
  have c := mcells (B := B) (n := n) (i := i) hv 24 m 0 (by decide) (by decide)
  rw [show (0 : Int32).toNatClampNeg = 0 from rfl, am_ad.none] at c
  have s0 : LX8_goes (m + 26) 0 A B n i 0 = LX8_goes (m + 24 + 1) 1 A B n i 0 := by
    rw [show m + 26 = (m + 24 + 1) + 1 from rfl, LX8_goes_s0, if_neg hn]
  rw [s0, c, LX8_goes_s1, if_pos (by decide)]
  have w2 : am_ad A 6 8 9 (A 0 1) 24 1 0 = A 0 := am_ad.off (by decide) (by decide)
  have x2 : am_ad I 7 9 10 (I 2 10) 24 1 2 = I 2 := am_ad.off (by decide) (by decide)
  have wr : 0 ≤ (A 0 2).toInt ∧ (A 0 2).toInt ≤ 99 := h.rg.2.2.1
  have hr3 : 0 ≤ (A 0 3).toInt ∧ (A 0 3).toInt ≤ t := h.rg.2.2.2.1
  have hr4 : 0 ≤ (A 0 4).toInt ∧ (A 0 4).toInt ≤ t := h.rg.2.2.2.2.1
  have p3 := i32_one (t := t) (by omega) hr3.1 hr3.2
  have p4 := i32_one (t := t) (by omega) hr4.1 hr4.2
  obtain ⟨w, ew⟩ : ∃ w, w = DX8_dries (am_ad A 6 8 9 (A 0 1) 24 1) (am_ad A 6 8 9 (A 0 1) 24 1 0 2) := ⟨_, rfl⟩
  have exw : (if (0 : Int32) < am_ad I 7 9 10 (I 2 10) 24 1 2 11 - DX1_driedByAnHour (am_ad I 7 9 10 (I 2 10) 24 1) 2 then am_ad I 7 9 10 (I 2 10) 24 1 2 11 - DX1_driedByAnHour (am_ad I 7 9 10 (I 2 10) 24 1) 2 else 0) = w ∧ 0 ≤ w.toInt ∧ w.toInt ≤ 99 := by
    unfold DX8_dries at ew
    unfold DX1_driedByAnHour
    rw [w2] at ew
    rw [x2, show I 2 11 = A 0 2 from h.bd.n2, e1]
    have key : ∀ d : Int32, d = 1 ∨ d = 2 → w = (if 0 ≤ A 0 2 - d then A 0 2 - d else 0) → (if (0 : Int32) < A 0 2 - d then A 0 2 - d else 0) = w ∧ 0 ≤ w.toInt ∧ w.toInt ≤ 99 := by
      intro d hd e
      have ed : (A 0 2 - d).toInt = (A 0 2).toInt - d.toInt := by
        rw [Int32.toInt_sub]
        rcases hd with rfl | rfl
        · have : (1 : Int32).toInt = 1 := rfl
          exact Int.bmod_eq_of_le (by omega) (by omega)
        · have : (2 : Int32).toInt = 2 := rfl
          exact Int.bmod_eq_of_le (by omega) (by omega)
      have hd2 : 1 ≤ d.toInt := by
        rcases hd with rfl | rfl <;> decide
      rw [e]
      have v0 : (0 : Int32).toInt = 0 := rfl
      by_cases y : 0 ≤ A 0 2 - d
      · rw [if_pos y]
        rw [Int32.le_iff_toInt_le] at y
        by_cases z : (0 : Int32) < A 0 2 - d
        · rw [if_pos z]
          exact ⟨rfl, by omega, by omega⟩
        · rw [if_neg z]
          rw [Int32.lt_iff_toInt_lt] at z
          exact ⟨Int32.toInt_inj.mp (by omega), by omega, by omega⟩
      · rw [if_neg y]
        rw [Int32.le_iff_toInt_le] at y
        have z : ¬ (0 : Int32) < A 0 2 - d := by
          rw [Int32.lt_iff_toInt_lt]
          omega
        rw [if_neg z]
        exact ⟨rfl, by decide, by decide⟩
    by_cases s : ¬ A 0 1 = 0
    · rw [if_pos s] at ew ⊢
      exact key 2 (Or.inr rfl) ew
    · rw [if_neg s] at ew ⊢
      exact key 1 (Or.inl rfl) ew
  rw [← ew]
  have f0 : am_Fm A (am_ad A 6 8 9 (A 0 1) 24 1) := am_ad.fm
  have hd := h1.wet exw.2
  have d1 : am_d1 (am_ad I 7 9 10 (I 2 10) 24 1) = am_upI (am_ad I 7 9 10 (I 2 10) 24 1) 2 11 w := by
    unfold am_d1
    rw [exw.1]
  have n3 : ∀ M : am_mI, M = am_ad A 6 8 9 (A 0 1) 24 1 → ∀ k, M 0 k = A 0 k := fun M e k => by rw [e, w2]
  generalize am_ad A 6 8 9 (A 0 1) 24 1 = AA at *
  rw [am_upI_yes]
  by_cases z : ¬ w = 0
  · rw [if_pos z, Option.bind_some]
    have e12 : am_dr (am_ad I 7 9 10 (I 2 10) 24 1) = am_upI (am_ad I 7 9 10 (I 2 10) 24 1) 2 11 w := by
      unfold am_dr
      rw [d1, am_upI_yes, if_pos z]
    refine ⟨_, rfl, ?_, (f0.up (by decide)).up (by decide), fun k hk => ?_⟩
    · unfold am_hr
      rw [e12, am_upI_no (k := 11) (b := 12) (by decide), x2, show I 2 12 = A 0 3 from h.bd.n3, am_upI_no (k := 2) (b := 3) (by decide), w2]
      exact hd.num3 (by omega)
    · rw [am_upI_no (by omega), am_upI_no (by omega), w2]
  · rw [if_neg z, Option.bind_some]
    have e12 : am_dr (am_ad I 7 9 10 (I 2 10) 24 1) = am_upI (am_upI (am_ad I 7 9 10 (I 2 10) 24 1) 2 11 w) 2 13 (am_upI (am_ad I 7 9 10 (I 2 10) 24 1) 2 11 w 2 13 + 1) := by
      unfold am_dr
      rw [d1, am_upI_yes, if_neg z]
    refine ⟨_, rfl, ?_, ((f0.up (by decide)).up (by decide)).up (by decide), fun k hk => ?_⟩
    · unfold am_hr
      rw [e12, am_upI_no (k := 13) (b := 12) (by decide), am_upI_no (k := 11) (b := 12) (by decide), am_upI_no (k := 11) (b := 13) (by decide), x2, show I 2 12 = A 0 3 from h.bd.n3, show I 2 13 = A 0 4 from h.bd.n4, am_upI_no (k := 4) (b := 3) (by decide), am_upI_no (k := 2) (b := 3) (by decide), am_upI_no (k := 2) (b := 4) (by decide), w2]
      exact (hd.num4 (by omega)).num3 (by omega)
    · rw [am_upI_no (by omega), am_upI_no (by omega), am_upI_no (by omega), w2]
theorem goes_sim {t : Nat} {I : am_mI} {J : am_mJ} {A : am_mI} {B : am_mJ} (h : am_Iv t I J A B) {n : Int32} (hn : 0 ≤ n.toInt) (h1 : n.toInt ≤ 1000) : ∀ (k m j : Nat) (i : Int32) (A' : am_mI), j + k = n.toInt.toNat → i.toInt = (j : Int) → t + (j + k) ≤ 61440000 → am_Iv (t + j) (am_hx I j i) J A' B →
    ∃ A1 : am_mI, LX8_goes (m + 26 * k + 1) 0 A' B n i 0 = some (0, A1, B) ∧ am_Iv (t + (j + k)) (am_hx I (j + k) n) J A1 B ∧ am_Fm A' A1 ∧ (∀ q, q < 2 ∨ 4 < q → A1 0 q = A' 0 q) := by
  intro k
  induction k with
  | zero =>
    intro m j i A' e1 e2 e3 g
    have q : n ≤ i := by
      rw [Int32.le_iff_toInt_le]
      omega
    refine ⟨A', ?_, ?_, am_Fm.me A', fun _ _ => rfl⟩
    · rw [LX8_goes_s0, if_pos q]
    · have z : n.toInt = i.toInt := by omega
      rw [show n = i from Int32.toInt_inj.mp z]
      exact g
  | succ k ih =>
    intro m j i A' e1 e2 e3 g
    have q : ¬ n ≤ i := by
      rw [Int32.le_iff_toInt_le]
      omega
    obtain ⟨A1, s1, s2, s3, s4⟩ := goes_hour g (by omega) q (m + 26 * k + 1)
    rw [am_hx.more] at s2
    have x1 : (i + 1).toInt = i.toInt + 1 := i32_succ (n := n.toInt) (by omega) (by omega) (by omega)
    obtain ⟨A2, r1, r2, r3, r4⟩ := ih m (j + 1) (i + 1) A1 (by omega) (by omega) (by omega) s2
    refine ⟨A2, ?_, ?_, s3.trans r3, fun q hq => (r4 q hq).trans (s4 q hq)⟩
    · rw [show m + 26 * (k + 1) + 1 = m + 26 * k + 1 + 26 by omega, s1]
      exact r1
    · rw [show j + (k + 1) = j + 1 + k by omega]
      exact r2
theorem am_hx.fx {I : am_mI} {j : Nat} {n : Int32} : am_Fx I (am_hx I j n) := fun a ha => by
  unfold am_hx
  rw [am_upI_ne (by omega), am_dn.off (by omega), am_ad.off (by omega) (by omega)]
theorem goesAs {t : Nat} {I : am_mI} {J : am_mJ} {A : am_mI} {B : am_mJ} (h : am_Iv t I J A B) {n : Int32} (h0 : 0 ≤ n.toInt) (h1 : n.toInt ≤ 1000) (ht : t + 1000 ≤ 61440000) : ∃ (I1 A1 : am_mI), DX1_passHours I J 2 n = some (0, I1, J) ∧ DX8_goes A B n = some (0, A1, B) ∧ am_Iv (t + n.toInt.toNat) I1 J A1 B ∧ am_Fx I I1 ∧ am_Fm A A1 ∧ (∀ q, q < 2 ∨ 4 < q → A1 0 q = A 0 q) := by
  have hv : 0 ≤ (I 2 10).toInt ∧ (I 2 10).toInt ≤ 2 := by
    rw [show I 2 10 = A 0 1 from h.bd.n1]
    exact h.sided.2
  have f : am_FU = 1000000 := rfl
  obtain ⟨A1, a1, a2, a3, a4⟩ := goes_sim h h0 h1 n.toInt.toNat (am_FU - 26 * n.toInt.toNat - 1) 0 0 A (by omega) rfl (by omega) (by rw [am_hx.none]; exact h)
  rw [show am_FU - 26 * n.toInt.toNat - 1 + 26 * n.toInt.toNat + 1 = am_FU by omega] at a1
  rw [Nat.zero_add] at a2
  exact ⟨_, A1, xhours hv h0 h1, a1, a2, am_hx.fx, a3, a4⟩
theorem op_hours {t : Nat} {I : am_mI} {J : am_mJ} {A : am_mI} {B : am_mJ} (h : am_Iv t I J A B) (ht : t + 20000 ≤ 61440000) (n : Int32) : am_Tw (t + 20000) (DX7_hours I J n) (DX8_hours A B n) := by
  unfold DX7_hours DX8_hours
  by_cases c0 : n < (1 : Int32)
  · rw [if_pos c0, if_pos c0]
    exact .no6 h
  · rw [if_neg c0, if_neg c0]
    by_cases c1 : n ≤ (240 : Int32)
    · rw [if_pos c1, if_pos c1]
      have hn : 1 ≤ n.toInt ∧ n.toInt ≤ 240 := by ((try simp only [Int32.lt_iff_toInt_lt, Int32.le_iff_toInt_le, Int32.reduceToInt, ← Int32.toNat_toInt, ← Int32.toInt_inj] at *) <;> omega)
      obtain ⟨I1, A1, a1, a2, a3, -⟩ := goesAs h (n := n) (by omega) (by omega) (by omega)
      rw [a1, a2, Option.bind_some, Option.bind_some]
      exact ⟨A1 0 3, I1, J, A1, B, congrArg (fun r => some (r, I1, J)) a3.bd.n3, rfl, a3.more (by omega)⟩
    · rw [if_neg c1, if_neg c1]
      exact .no6 h
/-! SENTENCES: days -/
theorem shr16 (u : UInt32) : 0 ≤ ((u >>> (((16 : Int32)).toUInt32 &&& Int32.toUInt32 31)).toInt32).toInt ∧ ((u >>> (((16 : Int32)).toUInt32 &&& Int32.toUInt32 31)).toInt32).toInt < 65536 := by
  have e : (((16 : Int32)).toUInt32 &&& Int32.toUInt32 31) = 16 := by decide
  rw [e]
  have h : (u >>> 16).toNat < 65536 := by
    rw [UInt32.toNat_shiftRight]
    have : u.toNat < 2^32 := u.toNat_lt
    have z : (16 : UInt32).toNat % 32 = 16 := rfl
    rw [z, Nat.shiftRight_eq_div_pow]
    omega
  generalize u >>> 16 = w at h
  have k : (w.toInt32).toInt = (w.toNat : Int).bmod (2 ^ 32) := by
    show (w.toBitVec).toInt = _
    rw [BitVec.toInt_eq_toNat_bmod]
    rfl
  have b : ((w.toNat : Int)).bmod (2 ^ 32) = w.toNat := Int.bmod_eq_of_le (by omega) (by omega)
  omega
theorem i32_rem {y n : Int32} (h0 : 0 ≤ y.toInt) (h1 : y.toInt < 65536) (hn : n = 3 ∨ n = 24) : 0 ≤ (y - y / n * n).toInt ∧ (y - y / n * n).toInt < n.toInt := by
  have hp : 0 ≤ n.toInt := by rcases hn with rfl | rfl <;> decide
  have e : (y / n).toInt = y.toInt / n.toInt := by
    rw [Int32.toInt_div, Int.tdiv_eq_ediv_of_nonneg h0]
    have a := Int.ediv_nonneg h0 hp
    have b := Int.ediv_le_self n.toInt h0
    exact Int.bmod_eq_of_le (by omega) (by omega)
  have e2 : (y / n * n).toInt = y.toInt / n.toInt * n.toInt := by
    rw [Int32.toInt_mul, e]
    rcases hn with rfl | rfl
    · have v : (3 : Int32).toInt = 3 := rfl
      rw [v]
      exact Int.bmod_eq_of_le (by omega) (by omega)
    · have v : (24 : Int32).toInt = 24 := rfl
      rw [v]
      exact Int.bmod_eq_of_le (by omega) (by omega)
  rw [Int32.toInt_sub, e2]
  rcases hn with rfl | rfl
  · have v : (3 : Int32).toInt = 3 := rfl
    rw [v, Int.bmod_eq_of_le (by omega) (by omega)]
    omega
  · have v : (24 : Int32).toInt = 24 := rfl
    rw [v, Int.bmod_eq_of_le (by omega) (by omega)]
    omega
theorem drawAs {t : Nat} {I : am_mI} {J : am_mJ} {A : am_mI} {B : am_mJ} (h : am_Iv t I J A B) {n : Int32} (hn : n = 3 ∨ n = 24) : ∃ (v : Int32) (I1 A1 : am_mI), DX1_drawBelow I J 2 n = some (v, I1, J) ∧ DX8_draw A B n = some (v, A1, B) ∧ am_Iv t I1 J A1 B ∧ 0 ≤ v.toInt ∧ v.toInt < n.toInt := by
  have n0 : ¬ n = 0 := by rcases hn with rfl | rfl <;> decide
  have n1 : (1 : Int32) ≤ n := by rcases hn with rfl | rfl <;> decide
  unfold DX1_drawBelow DX8_draw
  rw [if_pos n1, if_pos n0, if_pos n0, am_upI_yes, am_upI_yes, show I 2 14 = A 0 5 from h.bd.n5]
  have s := shr16 ((A 0 5 * 1103515245 + 12345).toUInt32)
  exact ⟨_, _, _, rfl, rfl, h.seed, i32_rem s.1 s.2 hn⟩
theorem days_sim {n b : Int32} (hn : n.toInt ≤ 20) : ∀ (k m m2 : Nat) (x : Int32) {t : Nat} {I : am_mI} {J : am_mJ} {A : am_mI} {B : am_mJ}, am_Iv t I J A B → t + 25 * k + 2000 ≤ 61440000 → 0 ≤ x.toInt → x.toInt + k = n.toInt → k < m → k < m2 →
    ∃ (r : Int32) (I1 A1 : am_mI), LX1_passDays m I J 2 n b x = some (r, I1, J) ∧ LX8_days m2 A B n b x = some (r, A1, B) ∧ am_Iv (t + 25 * k) I1 J A1 B := by
  intro k
  induction k with
  | zero =>
    intro m m2 x t I J A B h ht h0 h1 hm hm2
    obtain ⟨m, rfl⟩ : ∃ j, m = j + 1 := ⟨m - 1, by omega⟩
    obtain ⟨m2, rfl⟩ : ∃ j, m2 = j + 1 := ⟨m2 - 1, by omega⟩
    unfold LX1_passDays LX8_days
    have q : n ≤ x := by
      rw [Int32.le_iff_toInt_le]
      omega
    rw [if_pos q, if_pos q, show I 2 13 = A 0 4 from h.bd.n4]
    exact ⟨_, I, A, rfl, rfl, h⟩
  | succ k ih =>
    intro m m2 x t I J A B h ht h0 h1 hm hm2
    obtain ⟨m, rfl⟩ : ∃ j, m = j + 1 := ⟨m - 1, by omega⟩
    obtain ⟨m2, rfl⟩ : ∃ j, m2 = j + 1 := ⟨m2 - 1, by omega⟩
    unfold LX1_passDays LX8_days
    have q : ¬ n ≤ x := by
      rw [Int32.le_iff_toInt_le]
      omega
    have x1 : (x + 1).toInt = x.toInt + 1 := i32_succ (n := 20) (by omega) (by omega) (by omega)
    rw [if_neg q, if_neg q]
    obtain ⟨v, I1, A1, a1, a2, a3, a4, a5⟩ := drawAs h (n := 3) (Or.inl rfl)
    have v3 : (3 : Int32).toInt = 3 := rfl
    have v24 : (24 : Int32).toInt = 24 := rfl
    have vn : (-1 : Int32).toInt = -1 := rfl
    have b3 := a3.side (v := v) (by omega)
    obtain ⟨I2, A2, c1, c2, c3, -⟩ := goesAs b3 (n := 24) (by decide) (by decide) (by omega)
    rw [a1, a2, Option.bind_some, Option.bind_some]
    unfold DX1_turnTo
    rw [Option.bind_some, c1, c2, Option.bind_some, Option.bind_some]
    rw [v24] at c3
    change am_Iv (t + 24) I2 J A2 B at c3
    dsimp only
    have e211 : I2 2 11 = A2 0 2 := c3.bd.n2
    by_cases w : (30 : Int32) ≤ A2 0 2
    · have w2 : (30 : Int32) ≤ I2 2 11 := by rw [e211]; exact w
      rw [if_pos w2, if_pos w]
      obtain ⟨v2, I3, A3, d1, d2, d3, d4, d5⟩ := drawAs c3 (n := 24) (Or.inr rfl)
      have cc := xcell (a := v2) ⟨d4, by omega⟩
      have hN := d3.nn
      obtain ⟨I4, A4, e1, e2, e3, -⟩ := putsAs d3 cc (v := -1) (by omega)
      unfold DX1_makeBare
      rw [d1, d2, Option.bind_some, Option.bind_some, e1, e2, Option.bind_some, Option.bind_some, Option.bind_some]
      dsimp only
      obtain ⟨r, I5, A5, f1, f2, f3⟩ := ih m m2 (x + 1) (e3.more (u := t + 25) (by omega)) (by omega) (by omega) (by omega) (by omega) (by omega)
      exact ⟨r, I5, A5, f1, f2, f3.more (by omega)⟩
    · have w2 : ¬ (30 : Int32) ≤ I2 2 11 := by rw [e211]; exact w
      rw [if_neg w2, if_neg w]
      obtain ⟨Is, As, s1, s2, s3, -⟩ := sprayAs (t := t + 24) (by omega) c3
      obtain ⟨v2, I3, A3, d1, d2, d3, d4, d5⟩ := drawAs s3 (n := 24) (Or.inr rfl)
      have cc := xcell (a := v2) ⟨d4, by omega⟩
      have hN := d3.nn
      obtain ⟨I4, A4, e1, e2, e3, -⟩ := putsAs d3 cc (v := -1) (by omega)
      unfold DX1_makeBare
      rw [s1, s2, Option.bind_some, Option.bind_some, d1, d2, Option.bind_some, Option.bind_some, e1, e2, Option.bind_some, Option.bind_some, Option.bind_some]
      dsimp only
      obtain ⟨r, I5, A5, f1, f2, f3⟩ := ih m m2 (x + 1) (e3.more (u := t + 25) (by omega)) (by omega) (by omega) (by omega) (by omega) (by omega)
      exact ⟨r, I5, A5, f1, f2, f3.more (by omega)⟩
theorem op_days {t : Nat} {I : am_mI} {J : am_mJ} {A : am_mI} {B : am_mJ} (h : am_Iv t I J A B) (ht : t + 20000 ≤ 61440000) (n : Int32) : am_Tw (t + 20000) (DX7_days I J n) (DX8_days A B n) := by
  unfold DX7_days DX8_days
  by_cases c0 : n < (1 : Int32)
  · rw [if_pos c0, if_pos c0]
    exact .no6 h
  · rw [if_neg c0, if_neg c0]
    by_cases c1 : n ≤ (20 : Int32)
    · rw [if_pos c1, if_pos c1]
      have hn : 1 ≤ n.toInt ∧ n.toInt ≤ 20 := by ((try simp only [Int32.lt_iff_toInt_lt, Int32.le_iff_toInt_le, Int32.reduceToInt, ← Int32.toNat_toInt, ← Int32.toInt_inj] at *) <;> omega)
      have z : (0 : Int32).toInt = 0 := rfl
      have f : am_FU = 1000000 := rfl
      obtain ⟨r, I1, A1, a1, a2, a3⟩ := days_sim hn.2 (b := A 0 4) n.toInt.toNat am_FU am_FU 0 h (by omega) (by omega) (by omega) (by omega) (by omega)
      unfold DX1_passDays
      rw [show I 2 13 = A 0 4 from h.bd.n4, a1, a2, Option.bind_some]
      exact .mk (a3.more (by omega))
    · rw [if_neg c1, if_neg c1]
      exact .no6 h
