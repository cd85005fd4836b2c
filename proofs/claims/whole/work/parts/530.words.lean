/-! SENTENCES: village; x's draft seen as m's board -/
def am_bb (X Y : am_mI) : am_mI := fun k => if 12 ≤ k ∧ k < 22 then Y (k - 10) else X k
def am_vw (Z : am_mI) : am_mI := fun k => if k = 0 then (fun b => if b = 6 then -1 else Z 0 b) else if 2 ≤ k ∧ k < 12 then Z (k + 10) else if 12 ≤ k ∧ k < 22 then Z (k - 10) else Z k
theorem bk_off {X Y : am_mI} {k : Nat} (h : ¬ (12 ≤ k ∧ k < 22)) : am_bb X Y k = X k := if_neg h
theorem bk_at {X Y : am_mI} {k : Nat} (h : 2 ≤ k ∧ k < 12) : am_bb X Y (k + 10) = Y k := (if_pos (by omega)).trans (by rw [Nat.add_sub_cancel])
theorem bk_vw (Z : am_mI) : am_bb Z (am_vw Z) = Z := by
  funext k
  by_cases c : 12 ≤ k ∧ k < 22
  · have e : am_bb Z (am_vw Z) k = am_vw Z (k - 10) := if_pos c
    rw [e]
    unfold am_vw
    rw [if_neg (by omega), if_pos (by omega), show k - 10 + 10 = k by omega]
  · exact bk_off c
theorem vw_bk {Z Y : am_mI} (h : am_Fx (am_vw Z) Y) : am_vw (am_bb Z Y) = Y := by
  funext k
  by_cases k0 : k = 0
  · subst k0
    have e := h 0 (by decide)
    rw [e]
    rfl
  · by_cases k2 : 2 ≤ k ∧ k < 12
    · have e : am_vw (am_bb Z Y) k = am_bb Z Y (k + 10) := by
        unfold am_vw
        rw [if_neg k0, if_pos k2]
      rw [e, bk_at k2]
    · have f := h k (by omega)
      by_cases k3 : 12 ≤ k ∧ k < 22
      · have e : am_vw (am_bb Z Y) k = am_bb Z Y (k - 10) := by
          unfold am_vw
          rw [if_neg k0, if_neg k2, if_pos k3]
        rw [e, bk_off (by omega), f]
        unfold am_vw
        rw [if_neg k0, if_neg k2, if_pos k3]
      · have e : am_vw (am_bb Z Y) k = am_bb Z Y k := by
          unfold am_vw
          rw [if_neg k0, if_neg k2, if_neg k3]
        rw [e, bk_off k3, f]
        unfold am_vw
        rw [if_neg k0, if_neg k2, if_neg k3]
theorem bk_up {X Y : am_mI} {k i : Nat} {v : Int32} (h : 2 ≤ k ∧ k < 12) : am_upI (am_bb X Y) (k + 10) i v = am_bb X (am_upI Y k i v) := by
  funext a b
  by_cases c : 12 ≤ a ∧ a < 22
  · have e : am_bb X (am_upI Y k i v) a = am_upI Y k i v (a - 10) := if_pos c
    have e2 : am_bb X Y a = Y (a - 10) := if_pos c
    rw [e]
    unfold am_upI
    by_cases d : a = k + 10 ∧ b = i
    · rw [if_pos d, if_pos (by omega)]
    · rw [if_neg d, if_neg (by omega), e2]
  · rw [bk_off c]
    unfold am_upI
    rw [if_neg (by omega), bk_off c]
def am_mp (X : am_mI) (o : Option (Int32 × am_mI × am_mJ)) : Option (Int32 × am_mI × am_mJ) := o.map (fun q => (q.1, am_bb X q.2.1, q.2.2))
theorem bk_draw {X Y : am_mI} {J : am_mJ} {a v : Int32} : DX1_draw (am_bb X Y) J 12 a v = am_mp X (DX1_draw Y J 2 a v) := by
  unfold DX1_draw
  rw [show (12 : Nat) + 4 = (2 + 4) + 10 from rfl, bk_up (by decide)]
  split
  · rfl
  · split <;> rfl
theorem bk_plan {X Y : am_mI} {J : am_mJ} {a v : Int32} : DX1_planFor (am_bb X Y) J 12 a v = am_mp X (DX1_planFor Y J 2 a v) := by
  unfold DX1_planFor
  rw [show (12 : Nat) + 6 = (2 + 6) + 10 from rfl, bk_up (by decide)]
  split
  · rfl
  · split <;> rfl
theorem bk_turn {X Y : am_mI} {J : am_mJ} {v : Int32} : DX1_turnTo (am_bb X Y) J 12 v = am_mp X (DX1_turnTo Y J 2 v) := by
  unfold DX1_turnTo
  rw [show (12 : Nat) = 2 + 10 from rfl, bk_up (by decide)]
  rfl
theorem bk_lay {X Y : am_mI} {J : am_mJ} {a v : Int32} : DX1_takeOver (am_bb X Y) J 12 a v = am_mp X (DX1_takeOver Y J 2 a v) := by
  unfold DX1_takeOver
  rw [show (12 : Nat) + 5 = (2 + 5) + 10 from rfl, show (12 : Nat) + 7 = (2 + 7) + 10 from rfl, show (12 : Nat) + 8 = (2 + 8) + 10 from rfl, show (12 : Nat) + 9 = (2 + 9) + 10 from rfl, bk_up (by decide), bk_up (by decide), bk_up (by decide)]
  by_cases c : DX7_isCell a = 0
  · rw [if_pos c, if_pos c]
    rfl
  · by_cases g : ¬ (a < 0 ∨ 24 ≤ a.toNatClampNeg)
    · simp only [if_neg c, if_pos g, Option.bind_some]
      rw [bk_up (by decide)]
      rfl
    · simp only [if_neg c, if_neg g]
      rfl
theorem bk_room {X Y : am_mI} : DX1_hasRoom (am_bb X Y) 12 = DX1_hasRoom Y 2 := rfl
theorem bk_count {X Y : am_mI} : DX1_stuffCount (am_bb X Y) 12 = DX1_stuffCount Y 2 := rfl
theorem add_at {Z : am_mI} {J : am_mJ} {a b c : Int32} {o : Nat} (ho : o = 2 ∨ o = 12) (r : ¬ DX1_hasRoom Z o = 0) (g : ¬ (Z o 3 < 0 ∨ 8 ≤ (Z o 3).toNatClampNeg)) :
    DX1_addStuff Z J o a b c = some (Z o 3 + 1 - 1, am_upI (am_upI (am_upI (am_upI Z (o + 1) (Z o 3).toNatClampNeg a) (o + 2) (Z o 3).toNatClampNeg b) (o + 3) (Z o 3).toNatClampNeg c) o 3 (Z o 3 + 1), J) := by
  rcases ho with rfl | rfl
  · unfold DX1_addStuff
    exact (if_pos r).trans ((if_pos g).trans ((if_pos g).trans (if_pos g)))
  · unfold DX1_addStuff
    exact (if_pos r).trans ((if_pos g).trans ((if_pos g).trans (if_pos g)))
theorem bk_add {X Y : am_mI} {J : am_mJ} {a b c : Int32} : DX1_addStuff (am_bb X Y) J 12 a b c = am_mp X (DX1_addStuff Y J 2 a b c) := by
  by_cases r : ¬ DX1_hasRoom Y 2 = 0
  · by_cases g : ¬ (Y 2 3 < 0 ∨ 8 ≤ (Y 2 3).toNatClampNeg)
    · rw [add_at (Or.inl rfl) r g, add_at (Z := am_bb X Y) (Or.inr rfl) r g]
      have e : am_bb X Y 12 = Y 2 := rfl
      rw [e, show (12 : Nat) + 1 = (2 + 1) + 10 from rfl, show (12 : Nat) + 2 = (2 + 2) + 10 from rfl, show (12 : Nat) + 3 = (2 + 3) + 10 from rfl, bk_up (by decide), bk_up (by decide), bk_up (by decide)]
      have u := bk_up (X := X) (Y := am_upI (am_upI (am_upI Y (2 + 1) (Y 2 3).toNatClampNeg a) (2 + 2) (Y 2 3).toNatClampNeg b) (2 + 3) (Y 2 3).toNatClampNeg c) (k := 2) (i := 3) (v := Y 2 3 + 1) (by decide)
      exact congrArg (fun z => some (Y 2 3 + 1 - 1, z, J)) u
    · exfalso
      apply r
      unfold DX1_hasRoom
      by_cases a : Y 2 3 < 0
      · rw [if_pos a]
      · rw [if_neg a]
        have z8 : (8 : Int32).toInt = 8 := rfl
        have z0 : (0 : Int32).toInt = 0 := rfl
        have e : (Y 2 3).toNatClampNeg = (Y 2 3).toInt.toNat := rfl
        have w : (8 : Int32) ≤ Y 2 3 := by
          rw [Int32.le_iff_toInt_le]
          rw [Int32.lt_iff_toInt_lt] at g a
          omega
        rw [if_pos w]
  · unfold DX1_addStuff
    rw [if_neg r, if_neg (show ¬ ¬ DX1_hasRoom (am_bb X Y) 12 = 0 from r)]
    rfl
theorem bk_sprays {X : am_mI} {J : am_mJ} : ∀ (n : Nat) (Y : am_mI) (x : Int32), LX1_sprayOnce n (am_bb X Y) J 12 x = am_mp X (LX1_sprayOnce n Y J 2 x) := by
  intro n
  induction n with
  | zero => intro Y x; rfl
  | succ n ih =>
    intro Y x
    have e7 : am_bb X Y (12 + 5) = Y (2 + 5) := rfl
    have e11 : am_bb X Y (12 + 9) = Y (2 + 9) := rfl
    unfold LX1_sprayOnce
    rw [e7, e11, show (12 : Nat) + 9 = (2 + 9) + 10 from rfl, bk_up (by decide), ih, ih]
    by_cases c : (24 : Int32) ≤ x
    · rw [if_pos c, if_pos c]
      rfl
    · rw [if_neg c, if_neg c]
      by_cases g : ¬ (x < 0 ∨ 24 ≤ x.toNatClampNeg)
      · simp only [if_pos g]
        by_cases l : Y (2 + 5) x.toNatClampNeg = -1
        · rw [if_pos l, if_pos l]
        · rw [if_neg l, if_neg l]
      · simp only [if_neg g]
        rfl
theorem bk_spray {X Y : am_mI} {J : am_mJ} : DX1_sprayOnce (am_bb X Y) J 12 = am_mp X (DX1_sprayOnce Y J 2) := by
  have e : am_bb X Y 12 = Y 2 := rfl
  unfold DX1_sprayOnce
  have u : ∀ v, am_upI (am_bb X Y) 12 11 v = am_bb X (am_upI Y 2 11 v) := fun v => bk_up (k := 2) (by decide)
  rw [e, u]
  exact bk_sprays _ _ _
theorem bk_dry {X Y : am_mI} {J : am_mJ} : DX1_dryForAnHour (am_bb X Y) J 12 = am_mp X (DX1_dryForAnHour Y J 2) := by
  have e : am_bb X Y 12 = Y 2 := rfl
  have u : ∀ Y k v, am_upI (am_bb X Y) 12 k v = am_bb X (am_upI Y 2 k v) := fun Y k v => bk_up (k := 2) (by decide)
  have ed : DX1_driedByAnHour (am_bb X Y) 12 = DX1_driedByAnHour Y 2 := rfl
  rw [am_dr.is]
  unfold DX1_dryForAnHour
  rw [ed, e, u, Option.bind_some]
  have e2 : ∀ Y, am_bb X Y 12 = Y 2 := fun _ => rfl
  rw [e2, u]
  unfold am_dr am_d1
  by_cases c : ¬ am_upI Y 2 11 (if (0 : Int32) < Y 2 11 - DX1_driedByAnHour Y 2 then Y 2 11 - DX1_driedByAnHour Y 2 else 0) 2 11 = 0
  · rw [if_pos c, if_pos c]
    rfl
  · rw [if_neg c, if_neg c]
    rfl
theorem bk_hours {X : am_mI} {J : am_mJ} {m : Int32} : ∀ (n : Nat) (s : Nat) (Y : am_mI) (x : Int32), (s = 0 ∨ s = 1) → LX1_passHours n s (am_bb X Y) J 12 m x = am_mp X (LX1_passHours n s Y J 2 m x) := by
  intro n
  induction n with
  | zero => intro s Y x hs; rfl
  | succ n ih =>
    intro s Y x hs
    have e2 : am_bb X Y 12 = Y 2 := rfl
    rcases hs with rfl | rfl
    · have e7 : am_bb X Y (12 + 5) = Y (2 + 5) := rfl
      have e9 : am_bb X Y (12 + 7) = Y (2 + 7) := rfl
      have e10 : am_bb X Y (12 + 8) = Y (2 + 8) := rfl
      rw [LX1_passHours_s0, LX1_passHours_s0, e7, e9, e10, e2, show (12 : Nat) + 7 = (2 + 7) + 10 from rfl, show (12 : Nat) + 8 = (2 + 8) + 10 from rfl, bk_up (by decide), bk_up (by decide), ih 0 _ _ (Or.inl rfl), ih 0 _ _ (Or.inl rfl), ih 0 _ _ (Or.inl rfl), ih 1 _ _ (Or.inr rfl)]
      split
      · rfl
      · split
        · split
          · cases DX1_isInSun x (Y 2 10) with
            | none => rfl
            | some q =>
              rw [Option.bind_some, Option.bind_some]
              split
              · first
                | rfl
                | split <;> first | rfl | (split <;> rfl)
              · first
                | rfl
                | split <;> first | rfl | (split <;> rfl)
          · rfl
        · rfl
    · have u : ∀ v, am_upI (am_bb X Y) 12 12 v = am_bb X (am_upI Y 2 12 v) := fun v => bk_up (k := 2) (by decide)
      rw [LX1_passHours_s1, LX1_passHours_s1, e2, bk_dry, u, am_dr.is]
      by_cases c : m ≤ x
      · rw [if_pos c, if_pos c]
        rfl
      · rw [if_neg c, if_neg c, Option.bind_some]
        exact ih 1 _ _ (Or.inr rfl)
theorem bk_pass {X Y : am_mI} {J : am_mJ} {m : Int32} : DX1_passHours (am_bb X Y) J 12 m = am_mp X (DX1_passHours Y J 2 m) := bk_hours _ _ _ _ (Or.inl rfl)
theorem bk_may {X Y : am_mI} {a : Int32} : DX1_mayBeLaid (am_bb X Y) 12 a = DX1_mayBeLaid Y 2 a := rfl
/-! SENTENCES: village; letters and words -/
theorem am_Iv.read {t : Nat} {I : am_mI} {J : am_mJ} {A : am_mI} {B : am_mJ} (h : am_Iv t I J A B) {I1 A1 : am_mI} (hI : ∀ k, k < 12 ∨ (22 ≤ k ∧ k < 32) ∨ 38 ≤ k → I1 k = I k) (hA : ∀ k, k ≠ 0 → k ≠ 18 → k ≠ 19 → A1 k = A k) (hA0 : ∀ q, q ≤ 6 ∨ q = 37 ∨ q = 38 → A1 0 q = A 0 q) (ho : am_Ot I1 A1) : am_Iv t I1 J A1 B := by
  have i0 := hI 0 (by decide)
  have i2 := hI 2 (by decide)
  have i40 := hI 40 (by decide)
  have i38 := hI 38 (by decide)
  have i39 := hI 39 (by decide)
  have a : ∀ k, k ≠ 0 → k ≠ 18 → k ≠ 19 → A1 k = A k := hA
  refine ⟨?_, ?_, ?_, ?_, ?_, ?_, ?_, ?_, (a 17 (by decide) (by decide) (by decide)).trans h.wd, ?_, ho⟩
  · refine ⟨((hI 3 (by decide)).trans h.bd.r0).trans (a 2 (by decide) (by decide) (by decide)).symm, ((hI 4 (by decide)).trans h.bd.r1).trans (a 3 (by decide) (by decide) (by decide)).symm, ((hI 5 (by decide)).trans h.bd.r2).trans (a 4 (by decide) (by decide) (by decide)).symm, ((hI 6 (by decide)).trans h.bd.r3).trans (a 5 (by decide) (by decide) (by decide)).symm, ((hI 7 (by decide)).trans h.bd.r4).trans (a 6 (by decide) (by decide) (by decide)).symm, ((hI 8 (by decide)).trans h.bd.r5).trans (a 7 (by decide) (by decide) (by decide)).symm, ((hI 9 (by decide)).trans h.bd.r6).trans (a 8 (by decide) (by decide) (by decide)).symm, ((hI 10 (by decide)).trans h.bd.r7).trans (a 9 (by decide) (by decide) (by decide)).symm, ((hI 11 (by decide)).trans h.bd.r8).trans (a 10 (by decide) (by decide) (by decide)).symm, ?_⟩
    have := h.bd.2.2.2.2.2.2.2.2.2
    unfold am_mn at this ⊢
    rw [i2, hA0 0 (by decide), hA0 1 (by decide), hA0 2 (by decide), hA0 3 (by decide), hA0 4 (by decide), hA0 5 (by decide)]
    exact this
  · have := h.rf
    unfold am_Rf at this ⊢
    rw [i40, a 1 (by decide) (by decide) (by decide)]
    exact this
  · rw [i0, hA0 6 (by decide)]
    exact h.ft
  · intro s hs
    have := h.sh s hs
    unfold am_Sh at this ⊢
    rw [hI (41 + 2 * s) (by omega), a 11 (by decide) (by decide) (by decide), a 12 (by decide) (by decide) (by decide), a 13 (by decide) (by decide) (by decide), a 14 (by decide) (by decide) (by decide)]
    exact this
  · have := h.im
    unfold am_Im at this ⊢
    rw [i0, hA0 38 (by decide), a 20 (by decide) (by decide) (by decide), hI 22 (by decide), hI 23 (by decide), hI 24 (by decide), hI 25 (by decide), hI 26 (by decide), hI 27 (by decide), hI 28 (by decide), hI 29 (by decide), hI 30 (by decide), hI 31 (by decide)]
    exact this
  · have := h.ac
    unfold am_Ac at this ⊢
    rw [i38, i39, hA0 37 (by decide), a 25 (by decide) (by decide) (by decide)]
    exact this
  · refine h.rg.cong (fun q i hq hi => ?_) (fun q hq => hA0 q (by omega))
    unfold am_mr
    rw [a (q + 2) (by omega) (by omega) (by omega)]
  · intro f
    rw [hA0 38 (by decide)] at f
    have z : am_kr A1 = am_kr A := by
      funext q i
      unfold am_kr
      rw [a 20 (by decide) (by decide) (by decide)]
    have z2 : am_kn A1 = am_kn A := by
      funext q
      unfold am_kn
      rw [a 20 (by decide) (by decide) (by decide)]
    rw [z, z2]
    exact h.kg f
  · have := h.st
    unfold am_St at this ⊢
    rw [hA0 0 (by decide), a 11 (by decide) (by decide) (by decide), a 14 (by decide) (by decide) (by decide)]
    exact this
/-- the letter at i, -1 behind the end; the told words; where they start, how long they are, whether a blank is behind -/
def am_lt (B : am_mJ) (s n i : Nat) : Int32 := if i < n then (B 15 (160 * s + i)).toInt32 else -1
def am_hh (c : Nat) : Int32 := am_nthI am_told c
def am_wo (w : Nat) : Nat := [0, 7, 13, 19, 24, 30, 36, 43].getD w 0
def am_wn (w : Nat) : Nat := [5, 4, 4, 3, 4, 5, 5].getD w 0
def am_wb (w : Nat) : Nat := [1, 1, 1, 1, 1, 0, 1].getD w 0
/-- how many letters are alike -/
def am_mc (f : Nat → Int32) : Nat → Nat → Nat → Nat
  | 0, _, _ => 0
  | k + 1, i, j => if f i = am_hh j then 1 + am_mc f k (i + 1) (j + 1) else 0
theorem am_mc.le (f : Nat → Int32) : ∀ k i j, am_mc f k i j ≤ k
  | 0, _, _ => Nat.le_refl 0
  | k + 1, i, j => by
    have := am_mc.le f k (i + 1) (j + 1)
    unfold am_mc
    split <;> omega
theorem am_mc.add (f : Nat → Int32) (l : Nat) : ∀ k i j, am_mc f (k + l) i j = if am_mc f k i j = k then k + am_mc f l (i + k) (j + k) else am_mc f k i j
  | 0, i, j => by
    have z : am_mc f 0 i j = 0 := rfl
    rw [z, if_pos rfl, Nat.zero_add, Nat.zero_add]
    rfl
  | k + 1, i, j => by
    have e := am_mc.add f l k (i + 1) (j + 1)
    have u : ∀ k i j, am_mc f (k + 1) i j = if f i = am_hh j then 1 + am_mc f k (i + 1) (j + 1) else 0 := fun _ _ _ => rfl
    rw [show k + 1 + l = (k + l) + 1 by omega, u, u]
    by_cases c : f i = am_hh j
    · rw [if_pos c, if_pos c, e, show i + 1 + k = i + (k + 1) by omega, show j + 1 + k = j + (k + 1) by omega]
      by_cases d : am_mc f k (i + 1) (j + 1) = k
      · rw [if_pos d, if_pos (by omega)]
        omega
      · rw [if_neg d, if_neg (by omega)]
    · rw [if_neg c, if_neg c, if_neg (by omega)]
theorem am_mc.at (f : Nat → Int32) : ∀ k i j q, q < am_mc f k i j → f (i + q) = am_hh (j + q)
  | 0, i, j, q, h => by
    unfold am_mc at h
    omega
  | k + 1, i, j, q, h => by
    unfold am_mc at h
    by_cases c : f i = am_hh j
    · rw [if_pos c] at h
      cases q with
      | zero => exact c
      | succ q =>
        have := am_mc.at f k (i + 1) (j + 1) q (by omega)
        rw [show i + (q + 1) = i + 1 + q by omega, show j + (q + 1) = j + 1 + q by omega]
        exact this
    · rw [if_neg c] at h
      omega
theorem word_tab : ∀ (w : Fin 7), (DJ0_length_8abf5 (1000 + w.1)).toInt = (am_wn w.1 : Int) ∧ DX5_wordOf (Int32.ofInt (w.1 : Int)) = 1000 + w.1 ∧ (∀ j : Fin 5, j.1 < am_wn w.1 → DJ0_charAt_5068e (1000 + w.1) (Int32.ofInt (j.1 : Int)) = some (am_hh (am_wo w.1 + j.1))) ∧ (∀ j : Fin 6, j.1 < am_wn w.1 + am_wb w.1 → ¬ am_hh (am_wo w.1 + j.1) = 0) ∧ am_hh (am_wo w.1 + am_wn w.1 + am_wb w.1) = 0 ∧ am_wo (w.1 + 1) = am_wo w.1 + am_wn w.1 + am_wb w.1 + 1 ∧ (am_wb w.1 = 1 → am_hh (am_wo w.1 + am_wn w.1) = 32) ∧ 3 ≤ am_wn w.1 ∧ am_wn w.1 ≤ 5 ∧ am_wb w.1 ≤ 1 ∧ am_wo w.1 + am_wn w.1 + am_wb w.1 < 43 := by decide +kernel
theorem word_two : ∀ (v w : Fin 7), am_hh (am_wo v.1) = am_hh (am_wo w.1) → am_hh (am_wo v.1 + 1) = am_hh (am_wo w.1 + 1) → v = w := by decide +kernel
/-- two words can't both stand with two letters -/
theorem mt_two {f : Nat → Int32} {p k l v w : Nat} (hv : v < 7) (hw : w < 7) (h1 : 2 ≤ am_mc f k p (am_wo v)) (h2 : 2 ≤ am_mc f l p (am_wo w)) : v = w := by
  have a0 := am_mc.at f k p (am_wo v) 0 (by omega)
  have a1 := am_mc.at f k p (am_wo v) 1 (by omega)
  have b0 := am_mc.at f l p (am_wo w) 0 (by omega)
  have b1 := am_mc.at f l p (am_wo w) 1 (by omega)
  exact congrArg Fin.val (word_two ⟨v, hv⟩ ⟨w, hw⟩ (a0.symm.trans b0) (a1.symm.trans b1))
/-- what x's reader has; what m's has -/
def am_Rx (B : am_mJ) (s n : Nat) (Z : am_mI) : Prop := (Z 32 1).toInt = (n : Int) ∧ ∀ i, i < n → Z 33 i = (B 15 (160 * s + i)).toInt32
def am_Rm (s n : Nat) (A1 : am_mI) : Prop := (A1 0 27).toInt = (n : Int) ∧ (A1 0 25).toInt = 160 * (s : Int) ∧ A1 17 = am_nthI am_told
theorem letterAs {B : am_mJ} {s n : Nat} {Z : am_mI} (hx : am_Rx B s n Z) (hn : n ≤ 160) {a : Int32} {i : Nat} (ea : a.toInt = (i : Int)) : DX5_letterAt Z a = some (am_lt B s n i) := by
  have v0 : (0 : Int32).toInt = 0 := rfl
  have v160 : (160 : Int32).toInt = 160 := rfl
  have e : a.toNatClampNeg = a.toInt.toNat := rfl
  unfold DX5_letterAt am_lt
  rw [if_neg (show ¬ a < 0 by rw [Int32.lt_iff_toInt_lt]; omega)]
  by_cases c : i < n
  · rw [if_neg (show ¬ Z 32 1 ≤ a by rw [Int32.le_iff_toInt_le]; have := hx.1; omega), if_neg (show ¬ (160 : Int32) ≤ a by rw [Int32.le_iff_toInt_le]; omega), if_pos (am_in (n := 160) (by rw [Int32.lt_iff_toInt_lt]; omega) (by omega)), if_pos c, show a.toNatClampNeg = i by omega, hx.2 i c]
  · rw [if_pos (show Z 32 1 ≤ a by rw [Int32.le_iff_toInt_le]; have := hx.1; omega), if_neg c]
theorem i32_addn {a b : Int32} {i j : Nat} (ea : a.toInt = (i : Int)) (eb : b.toInt = (j : Int)) (h : i + j < 100000) : (a + b).toInt = ((i + j : Nat) : Int) := by
  rw [Int32.toInt_add, ea, eb, Int.bmod_eq_of_le (by omega) (by omega)]
  omega
theorem mletter {B : am_mJ} {s n : Nat} {A1 : am_mI} (hm : am_Rm s n A1) (hs : s < 8) (hn : n ≤ 160) {a : Int32} {i : Nat} (ea : a.toInt = (i : Int)) (hi : i < n) : ¬ (A1 0 25 + a < 0 ∨ 1280 ≤ (A1 0 25 + a).toNatClampNeg) ∧ (B 15 (A1 0 25 + a).toNatClampNeg).toInt32 = am_lt B s n i := by
  have w : (A1 0 25 + a).toInt = ((160 * s + i : Nat) : Int) := i32_addn (i := 160 * s) (by rw [hm.2.1]; omega) ea (by omega)
  have e : (A1 0 25 + a).toNatClampNeg = 160 * s + i := by
    have : (A1 0 25 + a).toNatClampNeg = (A1 0 25 + a).toInt.toNat := rfl
    omega
  refine ⟨am_in (n := 1280) ?_ (by omega), ?_⟩
  · have v0 : (0 : Int32).toInt = 0 := rfl
    rw [Int32.lt_iff_toInt_lt]
    omega
  · unfold am_lt
    rw [e, if_pos hi]
theorem LX5_lettersAlike_s (n : Nat) (I : (Nat → Nat → Int32)) (g0 : Nat) (x2 : Int32) : LX5_lettersAlike (n + 1) I g0 x2 =
    if (DJ0_length_8abf5 g0) ≤ x2 then
      some x2
    else
      (DX5_letterAt I (((I 32 2) + x2))).bind fun q3 =>
      (DJ0_charAt_5068e g0 x2).bind fun q4 =>
      if ¬ q3 = q4 then
        some x2
      else
        LX5_lettersAlike n I g0 ((x2 + (1 : Int32))) := rfl
theorem LX5_readWord_s (n : Nat) (I : (Nat → Nat → Int32)) (J : (Nat → Nat → Int64)) (x1 : Int32) (x2 : Int32) : LX5_readWord (n + 1) I J x1 x2 =
    if (7 : Int32) ≤ x2 then
      (DX5_fail I J (((I 32 2) + x1))).bind fun q3 =>
      some ((-1 : Int32), q3.2.1, q3.2.2)
    else
      (DX5_lettersAlike I ((DX5_wordOf x2))).bind fun q4 =>
      if ¬ q4 = (DJ0_length_8abf5 ((DX5_wordOf x2))) then
        LX5_readWord n I J ((if x1 < q4 then q4 else x1)) ((x2 + (1 : Int32)))
      else
        some (x2, (am_upI I 32 2 ((I 32 2) + q4)), J) := rfl
theorem LX8_isWordAt_s0 (n : Nat) (I : (Nat → Nat → Int32)) (J : (Nat → Nat → Int64)) (x1 : Int32) (x2 : Int32) (x3 : Int32) : LX8_isWordAt (n + 1) 0 I J x1 x2 x3 =
    if x1 ≤ x3 then
      LX8_isWordAt n 1 I J 0 x2 ((I 0 26))
    else
      if ¬ (x2 < 0 ∨ 43 ≤ (x2).toNatClampNeg) then
        if ¬ (I 17 (x2).toNatClampNeg) = 0 then
          LX8_isWordAt n 0 I J x1 ((x2 + (1 : Int32))) ((x3 + (0 : Int32)))
        else
          LX8_isWordAt n 0 I J x1 ((x2 + (1 : Int32))) ((x3 + (1 : Int32)))
      else none := rfl
theorem LX8_isWordAt_s1 (n : Nat) (I : (Nat → Nat → Int32)) (J : (Nat → Nat → Int64)) (x1 : Int32) (x2 : Int32) (x3 : Int32) : LX8_isWordAt (n + 1) 1 I J x1 x2 x3 =
    if ¬ (x2 < 0 ∨ 43 ≤ (x2).toNatClampNeg) then
      if (I 17 (x2).toNatClampNeg) ≤ (32 : Int32) then
        if ¬ (x2 < 0 ∨ 43 ≤ (x2).toNatClampNeg) then
          if (32 : Int32) < (I 17 (x2).toNatClampNeg) then
            some ((0 : Int32))
          else
            some ((1 : Int32))
        else none
      else
        if (I 0 27) ≤ x3 then
          if ¬ (x2 < 0 ∨ 43 ≤ (x2).toNatClampNeg) then
            if (32 : Int32) < (I 17 (x2).toNatClampNeg) then
              some ((0 : Int32))
            else
              some ((1 : Int32))
          else none
        else
          if ¬ (((I 0 25) + x3) < 0 ∨ 1280 ≤ (((I 0 25) + x3)).toNatClampNeg) then
            if ¬ (x2 < 0 ∨ 43 ≤ (x2).toNatClampNeg) then
              if ¬ ((J 15 (((I 0 25) + x3)).toNatClampNeg)).toInt32 = (I 17 (x2).toNatClampNeg) then
                if ¬ (x2 < 0 ∨ 43 ≤ (x2).toNatClampNeg) then
                  if (32 : Int32) < (I 17 (x2).toNatClampNeg) then
                    some ((0 : Int32))
                  else
                    some ((1 : Int32))
                else none
              else
                LX8_isWordAt n 1 I J 0 ((x2 + (1 : Int32))) ((x3 + (1 : Int32)))
            else none
          else none
    else none := rfl
theorem LX8_word_s0 (n : Nat) (I : (Nat → Nat → Int32)) (J : (Nat → Nat → Int64)) (x1 : Int32) (x2 : Int32) (x3 : Int32) (x4 : Int32) (x5 : Int32) : LX8_word (n + 1) 0 I J x1 x2 x3 x4 x5 =
    if (7 : Int32) ≤ x3 then
      some ((-1 : Int32), (am_upI I 0 29 x2), J)
    else
      LX8_word n 1 I J x1 x2 x3 ((I 0 26)) x1 := rfl
theorem LX8_word_s1 (n : Nat) (I : (Nat → Nat → Int32)) (J : (Nat → Nat → Int64)) (x1 : Int32) (x2 : Int32) (x3 : Int32) (x4 : Int32) (x5 : Int32) : LX8_word (n + 1) 1 I J x1 x2 x3 x4 x5 =
    if ¬ (x5 < 0 ∨ 43 ≤ (x5).toNatClampNeg) then
      if (I 17 (x5).toNatClampNeg) = 0 then
        if ¬ (x5 < 0 ∨ 43 ≤ (x5).toNatClampNeg) then
          if ¬ (I 17 (x5).toNatClampNeg) = 0 then
            if x4 ≤ x2 then
              LX8_word n 2 I J x1 x2 x3 0 0
            else
              LX8_word n 2 I J x1 x4 x3 0 0
          else
            some (x3, (am_upI I 0 26 x4), J)
        else none
      else
        if (I 0 27) ≤ x4 then
          if ¬ (x5 < 0 ∨ 43 ≤ (x5).toNatClampNeg) then
            if ¬ (I 17 (x5).toNatClampNeg) = 0 then
              if x4 ≤ x2 then
                LX8_word n 2 I J x1 x2 x3 0 0
              else
                LX8_word n 2 I J x1 x4 x3 0 0
            else
              some (x3, (am_upI I 0 26 x4), J)
          else none
        else
          if ¬ (((I 0 25) + x4) < 0 ∨ 1280 ≤ (((I 0 25) + x4)).toNatClampNeg) then
            if ¬ (x5 < 0 ∨ 43 ≤ (x5).toNatClampNeg) then
              if ¬ ((J 15 (((I 0 25) + x4)).toNatClampNeg)).toInt32 = (I 17 (x5).toNatClampNeg) then
                if ¬ (x5 < 0 ∨ 43 ≤ (x5).toNatClampNeg) then
                  if ¬ (I 17 (x5).toNatClampNeg) = 0 then
                    if x4 ≤ x2 then
                      LX8_word n 2 I J x1 x2 x3 0 0
                    else
                      LX8_word n 2 I J x1 x4 x3 0 0
                  else
                    some (x3, (am_upI I 0 26 x4), J)
                else none
              else
                LX8_word n 1 I J x1 x2 x3 ((x4 + (1 : Int32))) ((x5 + (1 : Int32)))
            else none
          else none
    else none := rfl
theorem LX8_word_s2 (n : Nat) (I : (Nat → Nat → Int32)) (J : (Nat → Nat → Int64)) (x1 : Int32) (x2 : Int32) (x3 : Int32) (x4 : Int32) (x5 : Int32) : LX8_word (n + 1) 2 I J x1 x2 x3 x4 x5 =
    if ¬ (x1 < 0 ∨ 43 ≤ (x1).toNatClampNeg) then
      if (I 17 (x1).toNatClampNeg) = 0 then
        LX8_word n 0 I J ((x1 + (1 : Int32))) x2 ((x3 + (1 : Int32))) 0 0
      else
        LX8_word n 2 I J ((x1 + (1 : Int32))) x2 x3 0 0
    else none := rfl
theorem LX8_item_s (n : Nat) (I : (Nat → Nat → Int32)) (J : (Nat → Nat → Int64)) (x1 : Int32) (x2 : Int32) (x3 : Int32) : LX8_item (n + 1) I J x1 x2 x3 =
    if x2 ≤ x3 then
      if x1 = 0 then
        (if ¬ ((0 : Int32) < 0 ∨ 3 ≤ ((0 : Int32)).toNatClampNeg) then
          if ¬ ((1 : Int32) < 0 ∨ 3 ≤ ((1 : Int32)).toNatClampNeg) then
            if ¬ ((2 : Int32) < 0 ∨ 3 ≤ ((2 : Int32)).toNatClampNeg) then
              (DX8_adds I J ((I 18 ((0 : Int32)).toNatClampNeg)) ((I 18 ((1 : Int32)).toNatClampNeg)) ((I 18 ((2 : Int32)).toNatClampNeg))).bind fun q17 =>
              some ((1 : Int32), q17.2.1, q17.2.2)
            else none
          else none
        else none)
      else if x1 = 1 then
        (if ¬ ((0 : Int32) < 0 ∨ 3 ≤ ((0 : Int32)).toNatClampNeg) then
          if ¬ ((1 : Int32) < 0 ∨ 3 ≤ ((1 : Int32)).toNatClampNeg) then
            if ¬ ((I 18 ((0 : Int32)).toNatClampNeg) < 0 ∨ 24 ≤ ((I 18 ((0 : Int32)).toNatClampNeg)).toNatClampNeg) then
              some ((1 : Int32), (am_upI I 5 ((I 18 ((0 : Int32)).toNatClampNeg)).toNatClampNeg (I 18 ((1 : Int32)).toNatClampNeg)), J)
            else none
          else none
        else none)
      else if x1 = 2 then
        (if ¬ ((0 : Int32) < 0 ∨ 3 ≤ ((0 : Int32)).toNatClampNeg) then
          if ¬ ((1 : Int32) < 0 ∨ 3 ≤ ((1 : Int32)).toNatClampNeg) then
            if ¬ ((I 18 ((0 : Int32)).toNatClampNeg) < 0 ∨ 24 ≤ ((I 18 ((0 : Int32)).toNatClampNeg)).toNatClampNeg) then
              some ((1 : Int32), (am_upI I 7 ((I 18 ((0 : Int32)).toNatClampNeg)).toNatClampNeg (I 18 ((1 : Int32)).toNatClampNeg)), J)
            else none
          else none
        else none)
      else if x1 = 3 then
        (if ¬ ((0 : Int32) < 0 ∨ 3 ≤ ((0 : Int32)).toNatClampNeg) then
          if ¬ ((1 : Int32) < 0 ∨ 3 ≤ ((1 : Int32)).toNatClampNeg) then
            (DX8_puts I J ((I 18 ((0 : Int32)).toNatClampNeg)) ((I 18 ((1 : Int32)).toNatClampNeg))).bind fun q18 =>
            some ((1 : Int32), q18.2.1, q18.2.2)
          else none
        else none)
      else if x1 = 4 then
        (if ¬ ((0 : Int32) < 0 ∨ 3 ≤ ((0 : Int32)).toNatClampNeg) then
          some ((1 : Int32), (am_upI I 0 1 (I 18 ((0 : Int32)).toNatClampNeg)), J)
        else none)
      else if x1 = 5 then
        ((DX8_spray I J).bind fun q19 =>
        some ((1 : Int32), q19.2.1, q19.2.2))
      else if ¬ ((0 : Int32) < 0 ∨ 3 ≤ ((0 : Int32)).toNatClampNeg) then
        (DX8_goes I J ((I 18 ((0 : Int32)).toNatClampNeg))).bind fun q20 =>
        some ((1 : Int32), q20.2.1, q20.2.2)
      else none
    else
      if x3 ≤ 0 then
        (DX8_number I J).bind fun q21 =>
        if ¬ q21.1 = 0 then
          (DX8_isSo q21.2.1 x1 x3).bind fun q22 =>
          if ¬ q22 = 0 then
            if ¬ (x3 < 0 ∨ 3 ≤ (x3).toNatClampNeg) then
              LX8_item n ((am_upI q21.2.1 18 (x3).toNatClampNeg (q21.2.1 0 28))) q21.2.2 x1 x2 ((x3 + (1 : Int32)))
            else none
          else
            (DX8_faulty q21.2.1 q21.2.2 ((I 0 26))).bind fun q23 =>
            if q23.1 = 0 ∨ q23.1 = 1 then some (q23.1, q23.2.1, q23.2.2) else none
        else
          some ((0 : Int32), q21.2.1, q21.2.2)
      else
        if (I 0 27) ≤ (I 0 26) then
          (DX8_faulty I J ((I 0 26))).bind fun q24 =>
          if q24.1 = 0 ∨ q24.1 = 1 then some (q24.1, q24.2.1, q24.2.2) else none
        else
          if ¬ (((I 0 25) + (I 0 26)) < 0 ∨ 1280 ≤ (((I 0 25) + (I 0 26))).toNatClampNeg) then
            if ((J 15 (((I 0 25) + (I 0 26))).toNatClampNeg)).toInt32 = (32 : Int32) then
              (DX8_number (am_upI I 0 26 ((I 0 26) + (1 : Int32))) J).bind fun q25 =>
              if ¬ q25.1 = 0 then
                (DX8_isSo q25.2.1 x1 x3).bind fun q26 =>
                if ¬ q26 = 0 then
                  if ¬ (x3 < 0 ∨ 3 ≤ (x3).toNatClampNeg) then
                    LX8_item n ((am_upI q25.2.1 18 (x3).toNatClampNeg (q25.2.1 0 28))) q25.2.2 x1 x2 ((x3 + (1 : Int32)))
                  else none
                else
                  (DX8_faulty q25.2.1 q25.2.2 ((((am_upI I 0 26 ((I 0 26) + (1 : Int32)))) 0 26))).bind fun q27 =>
                  if q27.1 = 0 ∨ q27.1 = 1 then some (q27.1, q27.2.1, q27.2.2) else none
              else
                some ((0 : Int32), q25.2.1, q25.2.2)
            else
              (DX8_faulty I J ((I 0 26))).bind fun q28 =>
              if q28.1 = 0 ∨ q28.1 = 1 then some (q28.1, q28.2.1, q28.2.2) else none
          else none := rfl
theorem LX8_village_s (n : Nat) (I : (Nat → Nat → Int32)) (J : (Nat → Nat → Int64)) (x3 : Int32) (x4 : Int32) : LX8_village (n + 1) I J x3 x4 =
    if x4 = 0 then
      if x4 = 0 then
        (DX8_whole I J 19 ((1 : Int32))).bind fun q12 =>
        (DX8_no (am_upI q12.2.1 0 6 (q12.2.1 0 29)) q12.2.2 ((-6 : Int32))).bind fun q13 =>
        some (q13.1, q13.2.1, q13.2.2)
      else
        some (x3, I, J)
    else
      if (I 0 27) ≤ (I 0 26) then
        if x4 = 0 then
          (DX8_whole I J 19 ((1 : Int32))).bind fun q14 =>
          (DX8_no (am_upI q14.2.1 0 6 (q14.2.1 0 29)) q14.2.2 ((-6 : Int32))).bind fun q15 =>
          some (q15.1, q15.2.1, q15.2.2)
        else
          some (x3, I, J)
      else
        if ¬ (((I 0 25) + (I 0 26)) < 0 ∨ 1280 ≤ (((I 0 25) + (I 0 26))).toNatClampNeg) then
          if ((J 15 (((I 0 25) + (I 0 26))).toNatClampNeg)).toInt32 = (59 : Int32) then
            (DX8_item (am_upI I 0 26 ((I 0 26) + (1 : Int32))) J).bind fun q16 =>
            LX8_village n q16.2.1 q16.2.2 ((x3 + (1 : Int32))) q16.1
          else
            (DX8_faulty I J ((I 0 26))).bind fun q17 =>
            LX8_village n q17.2.1 q17.2.2 x3 q17.1
        else none := rfl
theorem LX5_tell_s (n : Nat) (I : (Nat → Nat → Int32)) (J : (Nat → Nat → Int64)) (g0 : Nat) (g1 : Nat) (x3 : Int32) : LX5_tell (n + 1) I J g0 g1 x3 =
    if (160 : Int32) < x3 then
      some (x3, I, J)
    else
      (DX5_readItem I J g1).bind fun q4 =>
      if (q4.2.1 32 3) = (-1 : Int32) then
        if (q4.2.1 32 2) < (q4.2.1 32 1) then
          (DX5_readSign q4.2.1 q4.2.2 ((59 : Int32))).bind fun q5 =>
          if (q5.2.1 32 3) = (-1 : Int32) then
            LX5_tell n q5.2.1 q5.2.2 g0 g1 ((x3 + (1 : Int32)))
          else
            some ((x3 + (1 : Int32)), q5.2.1, q5.2.2)
        else
          some ((x3 + (1 : Int32)), q4.2.1, q4.2.2)
      else
        some (x3, q4.2.1, q4.2.2) := rfl
theorem LX5_takeLetters_s (n : Nat) (I : (Nat → Nat → Int32)) (J : (Nat → Nat → Int64)) (g0 : Nat) (x2 : Int32) : LX5_takeLetters (n + 1) I J g0 x2 =
    if (I 32 1) ≤ x2 then
      some ((0 : Int32), I, J)
    else
      (DX3_toldAt I J g0 x2).bind fun q3 =>
      if ¬ (x2 < 0 ∨ 160 ≤ (x2).toNatClampNeg) then
        LX5_takeLetters n ((am_upI I 33 (x2).toNatClampNeg q3)) J g0 ((x2 + (1 : Int32)))
      else none := rfl
theorem alike_sim {B : am_mJ} {s n p w : Nat} {Z : am_mI} (hx : am_Rx B s n Z) (hn : n ≤ 160) (hp : (Z 32 2).toInt = (p : Int)) (hp2 : p ≤ 1000) (hw : w < 7) : ∀ (k m j : Nat) (x : Int32), j + k = am_wn w → x.toInt = (j : Int) → k < m →
    ∃ r : Int32, LX5_lettersAlike m Z (1000 + w) x = some r ∧ r.toInt = ((j + am_mc (am_lt B s n) k (p + j) (am_wo w + j) : Nat) : Int) := by
  obtain ⟨t1, t2, t3, -⟩ := word_tab ⟨w, hw⟩
  have t8 := (word_tab ⟨w, hw⟩).2.2.2.2.2.2.2.2.1
  dsimp only at t1 t2 t3 t8
  intro k
  induction k with
  | zero =>
    intro m j x hj ex hm
    obtain ⟨m, rfl⟩ : ∃ i, m = i + 1 := ⟨m - 1, by omega⟩
    rw [LX5_lettersAlike_s, if_pos (show DJ0_length_8abf5 (1000 + w) ≤ x by rw [Int32.le_iff_toInt_le]; omega)]
    exact ⟨x, rfl, ex⟩
  | succ k ih =>
    intro m j x hj ex hm
    obtain ⟨m, rfl⟩ : ∃ i, m = i + 1 := ⟨m - 1, by omega⟩
    have c1 := letterAs hx hn (a := Z 32 2 + x) (i := p + j) (i32_addn hp ex (by omega))
    have c2 : DJ0_charAt_5068e (1000 + w) x = some (am_hh (am_wo w + j)) := by
      obtain ⟨y, ey⟩ := num_of (a := x) (n := 5) (by omega) (by omega)
      have := t3 y
      have ez : y.1 = j := by
        have h0 : ∀ y : Fin 5, (Int32.ofInt (y.1 : Int)).toInt = (y.1 : Int) := by decide
        have h1 := h0 y
        rw [← ey] at h1
        omega
      rw [ez] at this
      rw [← this (by omega), ey, ez]
    rw [LX5_lettersAlike_s, if_neg (show ¬ DJ0_length_8abf5 (1000 + w) ≤ x by rw [Int32.le_iff_toInt_le]; omega), c1, Option.bind_some, c2, Option.bind_some]
    unfold am_mc
    by_cases z : am_lt B s n (p + j) = am_hh (am_wo w + j)
    · rw [if_neg (not_not_intro z), if_pos z]
      obtain ⟨r, r1, r2⟩ := ih m (j + 1) (x + 1) (by omega) (col_next (by omega) ex) (by omega)
      refine ⟨r, r1, ?_⟩
      rw [r2, show p + (j + 1) = p + j + 1 by omega, show am_wo w + (j + 1) = am_wo w + j + 1 by omega]
      omega
    · rw [if_pos z, if_neg z]
      exact ⟨x, rfl, ex⟩
theorem hh_tab : (∀ j : Fin 43, ¬ am_hh j.1 = -1) ∧ (∀ j : Fin 5, ¬ am_hh j.1 ≤ 32 ∧ (32 : Int32) < am_hh j.1) ∧ am_hh 5 = 32 := by decide +kernel
/-- the most letters alike -/
def am_mx (a : Nat → Nat) : Nat → Nat → Nat → Nat
  | 0, _, l => l
  | k + 1, w, l => am_mx a k (w + 1) (if l < a w then a w else l)
theorem lt_eq {x y : Int32} {a b : Nat} (ex : x.toInt = (a : Int)) (ey : y.toInt = (b : Int)) : (x < y ↔ a < b) ∧ (x ≤ y ↔ a ≤ b) := by
  rw [Int32.lt_iff_toInt_lt, Int32.le_iff_toInt_le, ex, ey]
  exact ⟨by omega, by omega⟩
theorem xword_none {B : am_mJ} {J : am_mJ} {s n p : Nat} {Z : am_mI} (hx : am_Rx B s n Z) (hn : n ≤ 160) (hp : (Z 32 2).toInt = (p : Int)) (hp2 : p ≤ 1000) : ∀ (k m w l : Nat) (lg x : Int32), w + k = 7 → x.toInt = (w : Int) → lg.toInt = (l : Int) → k < m → l ≤ 10 →
    (∀ i, w ≤ i → i < 7 → am_mc (am_lt B s n) (am_wn i) p (am_wo i) ≠ am_wn i) →
    ∃ g : Int32, g.toInt = ((am_mx (fun i => am_mc (am_lt B s n) (am_wn i) p (am_wo i)) k w l : Nat) : Int) ∧ LX5_readWord m Z J lg x = (DX5_fail Z J (Z 32 2 + g)).bind fun q => some (-1, q.2.1, q.2.2) := by
  intro k
  induction k with
  | zero =>
    intro m w l lg x hw ex el hm hl no
    obtain ⟨m, rfl⟩ : ∃ i, m = i + 1 := ⟨m - 1, by omega⟩
    have v7 : (7 : Int32).toInt = 7 := rfl
    refine ⟨lg, el, ?_⟩
    rw [LX5_readWord_s, if_pos (show (7 : Int32) ≤ x by rw [Int32.le_iff_toInt_le]; omega)]
  | succ k ih =>
    intro m w l lg x hw ex el hm hl no
    obtain ⟨m, rfl⟩ : ∃ i, m = i + 1 := ⟨m - 1, by omega⟩
    have v7 : (7 : Int32).toInt = 7 := rfl
    have w7 : w < 7 := by omega
    obtain ⟨t1, t2, t3, -⟩ := word_tab ⟨w, w7⟩
    have t8 := (word_tab ⟨w, w7⟩).2.2.2.2.2.2.2.2.1
    dsimp only at t1 t2 t8
    have exw : x = Int32.ofInt (w : Int) := by
      rw [← ex, Int32.ofInt_toInt]
    obtain ⟨r, r1, r2⟩ := alike_sim hx hn hp hp2 w7 (am_wn w) am_FU 0 0 (by omega) (by decide) (by have : am_FU = 1000000 := rfl; omega)
    rw [Nat.zero_add, Nat.add_zero, Nat.add_zero] at r2
    have le := am_mc.le (am_lt B s n) (am_wn w) p (am_wo w)
    have now := no w (Nat.le_refl w) w7
    have nr : ¬ r = DJ0_length_8abf5 (1000 + w) := fun e => by
      rw [e, t1] at r2
      omega
    rw [LX5_readWord_s, if_neg (show ¬ (7 : Int32) ≤ x by rw [Int32.le_iff_toInt_le]; omega), exw, t2]
    unfold DX5_lettersAlike
    rw [r1, Option.bind_some, if_pos nr, ← exw]
    have c := (lt_eq el r2).1
    unfold am_mx
    by_cases d : l < am_mc (am_lt B s n) (am_wn w) p (am_wo w)
    · rw [if_pos (c.mpr d), if_pos d]
      exact ih m (w + 1) _ r (x + 1) (by omega) (by rw [i32_succ (n := 24) (by omega) (by omega) (by omega)]; omega) r2 (by omega) (by omega) (fun i hi => no i (by omega))
    · rw [if_neg (fun z => d (c.mp z)), if_neg d]
      exact ih m (w + 1) l lg (x + 1) (by omega) (by rw [i32_succ (n := 24) (by omega) (by omega) (by omega)]; omega) el (by omega) hl (fun i hi => no i (by omega))
theorem xword_some {B : am_mJ} {J : am_mJ} {s n p v : Nat} {Z : am_mI} (hx : am_Rx B s n Z) (hn : n ≤ 160) (hp : (Z 32 2).toInt = (p : Int)) (hp2 : p ≤ 1000) (hv : v < 7) (hit : am_mc (am_lt B s n) (am_wn v) p (am_wo v) = am_wn v) : ∀ (k m w : Nat) (lg x : Int32), w + k = v → x.toInt = (w : Int) → k < m →
    (∀ i, w ≤ i → i < v → am_mc (am_lt B s n) (am_wn i) p (am_wo i) ≠ am_wn i) →
    ∃ xi g : Int32, xi.toInt = (v : Int) ∧ g.toInt = (am_wn v : Int) ∧ LX5_readWord m Z J lg x = some (xi, am_upI Z 32 2 (Z 32 2 + g), J) := by
  intro k
  induction k with
  | zero =>
    intro m w lg x hw ex hm no
    obtain ⟨m, rfl⟩ : ∃ i, m = i + 1 := ⟨m - 1, by omega⟩
    have v7 : (7 : Int32).toInt = 7 := rfl
    have ew : w = v := by omega
    subst ew
    obtain ⟨t1, t2, t3, -⟩ := word_tab ⟨w, hv⟩
    have t8 := (word_tab ⟨w, hv⟩).2.2.2.2.2.2.2.2.1
    dsimp only at t1 t2 t8
    have exw : x = Int32.ofInt (w : Int) := by
      rw [← ex, Int32.ofInt_toInt]
    obtain ⟨r, r1, r2⟩ := alike_sim hx hn hp hp2 hv (am_wn w) am_FU 0 0 (by omega) (by decide) (by have : am_FU = 1000000 := rfl; omega)
    rw [Nat.zero_add, Nat.add_zero, Nat.add_zero, hit] at r2
    have nr : r = DJ0_length_8abf5 (1000 + w) := Int32.toInt_inj.mp (by omega)
    rw [LX5_readWord_s, if_neg (show ¬ (7 : Int32) ≤ x by rw [Int32.le_iff_toInt_le]; omega), exw, t2]
    unfold DX5_lettersAlike
    rw [r1, Option.bind_some, if_neg (not_not_intro nr), ← exw]
    exact ⟨x, r, ex, r2, rfl⟩
  | succ k ih =>
    intro m w lg x hw ex hm no
    obtain ⟨m, rfl⟩ : ∃ i, m = i + 1 := ⟨m - 1, by omega⟩
    have v7 : (7 : Int32).toInt = 7 := rfl
    have w7 : w < 7 := by omega
    obtain ⟨t1, t2, t3, -⟩ := word_tab ⟨w, w7⟩
    have t8 := (word_tab ⟨w, w7⟩).2.2.2.2.2.2.2.2.1
    dsimp only at t1 t2 t8
    have exw : x = Int32.ofInt (w : Int) := by
      rw [← ex, Int32.ofInt_toInt]
    obtain ⟨r, r1, r2⟩ := alike_sim hx hn hp hp2 w7 (am_wn w) am_FU 0 0 (by omega) (by decide) (by have : am_FU = 1000000 := rfl; omega)
    rw [Nat.zero_add, Nat.add_zero, Nat.add_zero] at r2
    have now := no w (Nat.le_refl w) (by omega)
    have nr : ¬ r = DJ0_length_8abf5 (1000 + w) := fun e => by
      rw [e, t1] at r2
      omega
    rw [LX5_readWord_s, if_neg (show ¬ (7 : Int32) ≤ x by rw [Int32.le_iff_toInt_le]; omega), exw, t2]
    unfold DX5_lettersAlike
    rw [r1, Option.bind_some, if_pos nr, ← exw]
    exact ih m (w + 1) _ (x + 1) (by omega) (by rw [i32_succ (n := 24) (by omega) (by omega) (by omega)]; omega) (by omega) (fun i hi => no i (by omega))
theorem ix43 {x : Int32} {c : Nat} (ex : x.toInt = (c : Int)) (hc : c < 43) : ¬ (x < 0 ∨ 43 ≤ x.toNatClampNeg) ∧ x.toNatClampNeg = c := by
  have e := nat_of ex
  have v0 : (0 : Int32).toInt = 0 := rfl
  refine ⟨am_in (n := 43) (by rw [Int32.lt_iff_toInt_lt]; omega) (by omega), e⟩
/-- the first word stands, whatever is behind -/
theorem wordAt_sim {B : am_mJ} {s n p : Nat} {A1 : am_mI} (hm : am_Rm s n A1) (hs : s < 8) (hn : n ≤ 160) (hp2 : p ≤ 1000) : ∀ (k m j : Nat) (x y : Int32), j + k = 5 → x.toInt = (j : Int) → y.toInt = ((p + j : Nat) : Int) → k < m →
    LX8_isWordAt m 1 A1 B 0 x y = some (if am_mc (am_lt B s n) k (p + j) j = k then 1 else 0) := by
  intro k
  induction k with
  | zero =>
    intro m j x y hj ex ey hm2
    obtain ⟨m, rfl⟩ : ∃ i, m = i + 1 := ⟨m - 1, by omega⟩
    obtain ⟨g, e⟩ := ix43 ex (by omega)
    have h5 := hh_tab.2.2
    have e17 : A1 17 x.toNatClampNeg = 32 := by
      rw [hm.2.2, e, show j = 5 by omega]
      exact h5
    rw [LX8_isWordAt_s1]
    simp only [if_pos g]
    rw [e17, if_pos (by decide), if_neg (show ¬ (32 : Int32) < 32 by decide)]
    rfl
  | succ k ih =>
    intro m j x y hj ex ey hm2
    obtain ⟨m, rfl⟩ : ∃ i, m = i + 1 := ⟨m - 1, by omega⟩
    obtain ⟨g, e⟩ := ix43 ex (by omega)
    obtain ⟨h1, h2⟩ := hh_tab.2.1 ⟨j, by omega⟩
    dsimp only at h1 h2
    have h3 := hh_tab.1 ⟨j, by omega⟩
    dsimp only at h3
    have e17 : A1 17 x.toNatClampNeg = am_hh j := by
      rw [hm.2.2, e]
      rfl
    rw [LX8_isWordAt_s1]
    simp only [if_pos g]
    rw [e17, if_neg h1]
    unfold am_mc
    by_cases c : p + j < n
    · obtain ⟨g2, e2⟩ := mletter (B := B) hm hs hn ey c
      rw [if_neg (show ¬ A1 0 27 ≤ y by rw [(lt_eq hm.1 ey).2]; omega), if_pos g2, e2]
      by_cases d : am_lt B s n (p + j) = am_hh j
      · rw [if_neg (not_not_intro d), if_pos d]
        have := ih m (j + 1) (x + 1) (y + 1) (by omega) (col_next (by omega) ex) (by rw [i32_succ (n := 100000) (by omega) (by omega) (by omega)]; omega) (by omega)
        rw [this, show p + (j + 1) = p + j + 1 by omega]
        by_cases z : am_mc (am_lt B s n) k (p + j + 1) (j + 1) = k
        · rw [if_pos z, if_pos (by omega)]
        · rw [if_neg z, if_neg (by omega)]
      · rw [if_pos d, if_neg d, if_pos h2, if_neg (by omega)]
    · have d : ¬ am_lt B s n (p + j) = am_hh j := by
        unfold am_lt
        rw [if_neg c]
        exact fun z => h3 z.symm
      rw [if_pos (show A1 0 27 ≤ y by rw [(lt_eq hm.1 ey).2]; omega), if_pos h2, if_neg d, if_neg (by omega)]
theorem wordAt {B : am_mJ} {s n p : Nat} {A1 : am_mI} (hm : am_Rm s n A1) (hs : s < 8) (hn : n ≤ 160) (hp : (A1 0 26).toInt = (p : Int)) (hp2 : p ≤ 1000) : DX8_isWordAt A1 B 0 = some (if am_mc (am_lt B s n) 5 p 0 = 5 then 1 else 0) := by
  obtain ⟨m, em, hm2⟩ := am_FU1
  unfold DX8_isWordAt
  rw [em, LX8_isWordAt_s0, if_pos (by decide)]
  exact wordAt_sim hm hs hn hp2 5 m 0 0 (A1 0 26) (by decide) (by decide) hp (by omega)
theorem mword_in {B : am_mJ} {s n p w : Nat} {A1 : am_mI} (hm : am_Rm s n A1) (hs : s < 8) (hn : n ≤ 160) (hp2 : p ≤ 1000) (hw : w < 7) {x1 x2 x3 : Int32} {l : Nat} (el : x2.toInt = ((p + l : Nat) : Int)) : ∀ (k m j : Nat) (x4 x5 : Int32), j + k = am_wn w + am_wb w → x4.toInt = ((p + j : Nat) : Int) → x5.toInt = ((am_wo w + j : Nat) : Int) →
    (am_mc (am_lt B s n) k (p + j) (am_wo w + j) = k → ∃ y : Int32, y.toInt = ((p + (am_wn w + am_wb w) : Nat) : Int) ∧ LX8_word (m + k + 1) 1 A1 B x1 x2 x3 x4 x5 = some (x3, am_upI A1 0 26 y, B)) ∧
    (am_mc (am_lt B s n) k (p + j) (am_wo w + j) ≠ k → ∃ (y : Int32) (m3 : Nat), m ≤ m3 ∧ y.toInt = ((p + (if l < j + am_mc (am_lt B s n) k (p + j) (am_wo w + j) then j + am_mc (am_lt B s n) k (p + j) (am_wo w + j) else l) : Nat) : Int) ∧ LX8_word (m + k + 1) 1 A1 B x1 x2 x3 x4 x5 = LX8_word m3 2 A1 B x1 y x3 0 0) := by
  obtain ⟨-, -, -, t4, t5, -, -, -, t9, t10, t11⟩ := word_tab ⟨w, hw⟩
  dsimp only at t4 t5 t9 t10 t11
  intro k
  induction k with
  | zero =>
    intro m j x4 x5 hj e4 e5
    obtain ⟨g, e⟩ := ix43 e5 (by omega)
    have e17 : A1 17 x5.toNatClampNeg = 0 := by
      rw [hm.2.2, e, show am_wo w + j = am_wo w + am_wn w + am_wb w by omega]
      exact t5
    refine ⟨fun _ => ⟨x4, by rw [e4]; omega, ?_⟩, fun z => absurd rfl z⟩
    rw [show m + 0 + 1 = m + 1 from rfl, LX8_word_s1]
    simp only [if_pos g]
    rw [e17, if_pos rfl, if_neg (not_not_intro rfl)]
  | succ k ih =>
    intro m j x4 x5 hj e4 e5
    obtain ⟨g, e⟩ := ix43 e5 (by omega)
    have h0 := t4 ⟨j, by omega⟩ (by show j < am_wn w + am_wb w; omega)
    dsimp only at h0
    have h3 := hh_tab.1 ⟨am_wo w + j, by omega⟩
    dsimp only at h3
    have e17 : A1 17 x5.toNatClampNeg = am_hh (am_wo w + j) := by
      rw [hm.2.2, e]
      rfl
    have stop : ∀ P : Option (Int32 × am_mI × am_mJ), ¬ am_lt B s n (p + j) = am_hh (am_wo w + j) → P = (if x4 ≤ x2 then LX8_word (m + k + 1) 2 A1 B x1 x2 x3 0 0 else LX8_word (m + k + 1) 2 A1 B x1 x4 x3 0 0) →
        (am_mc (am_lt B s n) (k + 1) (p + j) (am_wo w + j) = k + 1 → ∃ y : Int32, y.toInt = ((p + (am_wn w + am_wb w) : Nat) : Int) ∧ P = some (x3, am_upI A1 0 26 y, B)) ∧
        (am_mc (am_lt B s n) (k + 1) (p + j) (am_wo w + j) ≠ k + 1 → ∃ (y : Int32) (m3 : Nat), m ≤ m3 ∧ y.toInt = ((p + (if l < j + am_mc (am_lt B s n) (k + 1) (p + j) (am_wo w + j) then j + am_mc (am_lt B s n) (k + 1) (p + j) (am_wo w + j) else l) : Nat) : Int) ∧ P = LX8_word m3 2 A1 B x1 y x3 0 0) := by
      intro P d hP
      have z : am_mc (am_lt B s n) (k + 1) (p + j) (am_wo w + j) = 0 := if_neg d
      rw [z]
      refine ⟨fun f => by omega, fun _ => ?_⟩
      have c := (lt_eq e4 el).2
      by_cases q : x4 ≤ x2
      · rw [if_pos q] at hP
        have := c.mp q
        exact ⟨x2, m + k + 1, by omega, by rw [if_neg (show ¬ l < j + 0 by omega)]; exact el, hP⟩
      · rw [if_neg q] at hP
        have : ¬ p + j ≤ p + l := fun f => q (c.mpr f)
        exact ⟨x4, m + k + 1, by omega, by rw [if_pos (show l < j + 0 by omega)]; exact e4, hP⟩
    rw [show m + (k + 1) + 1 = (m + k + 1) + 1 from rfl, LX8_word_s1]
    simp only [if_pos g]
    rw [e17, if_neg h0, if_pos h0]
    by_cases c : p + j < n
    · obtain ⟨g2, e2⟩ := mletter (B := B) hm hs hn e4 c
      rw [if_neg (show ¬ A1 0 27 ≤ x4 by rw [(lt_eq hm.1 e4).2]; omega), if_pos g2, e2]
      by_cases d : am_lt B s n (p + j) = am_hh (am_wo w + j)
      · rw [if_neg (not_not_intro d)]
        obtain ⟨i1, i2⟩ := ih m (j + 1) (x4 + 1) (x5 + 1) (by omega) (by rw [i32_succ (n := 100000) (by omega) (by omega) (by omega)]; omega) (by rw [i32_succ (n := 100000) (by omega) (by omega) (by omega)]; omega)
        have z : am_mc (am_lt B s n) (k + 1) (p + j) (am_wo w + j) = 1 + am_mc (am_lt B s n) k (p + (j + 1)) (am_wo w + (j + 1)) := if_pos d
        rw [z]
        refine ⟨fun f => i1 (by omega), fun f => ?_⟩
        obtain ⟨y, m3, y1, y2, y3⟩ := i2 (by omega)
        refine ⟨y, m3, y1, ?_, y3⟩
        rw [y2, show j + 1 + am_mc (am_lt B s n) k (p + (j + 1)) (am_wo w + (j + 1)) = j + (1 + am_mc (am_lt B s n) k (p + (j + 1)) (am_wo w + (j + 1))) by omega]
      · rw [if_pos d]
        exact stop _ d rfl
    · have d : ¬ am_lt B s n (p + j) = am_hh (am_wo w + j) := by
        unfold am_lt
        rw [if_neg c]
        exact fun z => h3 z.symm
      rw [if_pos (show A1 0 27 ≤ x4 by rw [(lt_eq hm.1 e4).2]; omega)]
      exact stop _ d rfl
theorem mword_skip {B : am_mJ} {s n w : Nat} {A1 : am_mI} (hm : am_Rm s n A1) (hw : w < 7) {x2 x3 : Int32} (e3 : x3.toInt = (w : Int)) : ∀ (k m j : Nat) (x1 : Int32), j + k = am_wn w + am_wb w → x1.toInt = ((am_wo w + j : Nat) : Int) →
    ∃ y z : Int32, y.toInt = (am_wo (w + 1) : Int) ∧ z.toInt = ((w + 1 : Nat) : Int) ∧ LX8_word (m + k + 1) 2 A1 B x1 x2 x3 0 0 = LX8_word m 0 A1 B y x2 z 0 0 := by
  obtain ⟨-, -, -, t4, t5, t6, -, -, t9, t10, t11⟩ := word_tab ⟨w, hw⟩
  dsimp only at t4 t5 t6 t9 t10 t11
  intro k
  induction k with
  | zero =>
    intro m j x1 hj e1
    obtain ⟨g, e⟩ := ix43 e1 (by omega)
    have e17 : A1 17 x1.toNatClampNeg = 0 := by
      rw [hm.2.2, e, show am_wo w + j = am_wo w + am_wn w + am_wb w by omega]
      exact t5
    refine ⟨x1 + 1, x3 + 1, ?_, ?_, ?_⟩
    · rw [i32_succ (n := 100) (by omega) (by omega) (by omega), t6]
      omega
    · rw [i32_succ (n := 100) (by omega) (by omega) (by omega)]
      omega
    · rw [show m + 0 + 1 = m + 1 from rfl, LX8_word_s2, if_pos g, e17, if_pos rfl]
  | succ k ih =>
    intro m j x1 hj e1
    obtain ⟨g, e⟩ := ix43 e1 (by omega)
    have h0 := t4 ⟨j, by omega⟩ (by show j < am_wn w + am_wb w; omega)
    dsimp only at h0
    have e17 : A1 17 x1.toNatClampNeg = am_hh (am_wo w + j) := by
      rw [hm.2.2, e]
      rfl
    rw [show m + (k + 1) + 1 = (m + k + 1) + 1 from rfl, LX8_word_s2, if_pos g, e17, if_neg h0]
    exact ih m (j + 1) (x1 + 1) (by omega) (by rw [i32_succ (n := 100) (by omega) (by omega) (by omega)]; omega)
