/-! WHAT TIES THE TWO MEMORIES -/
abbrev am_mI : Type := Nat → Nat → Int32
abbrev am_mJ : Type := Nat → Nat → Int64
theorem am_upI_ne {I : am_mI} {h k a : Nat} {v : Int32} (n : a ≠ h) : am_upI I h k v a = I a := by
  funext b
  unfold am_upI
  rw [if_neg (fun q => n q.1)]
theorem am_upI_at {I : am_mI} {h k : Nat} {v : Int32} : am_upI I h k v h = fun b => if b = k then v else I h b := by
  funext b
  unfold am_upI
  by_cases q : b = k
  · rw [if_pos ⟨rfl, q⟩, if_pos q]
  · rw [if_neg (fun r => q r.2), if_neg q]
theorem am_upI_yes {I : am_mI} {h k : Nat} {v : Int32} : am_upI I h k v h k = v := if_pos ⟨rfl, rfl⟩
theorem am_upI_no {I : am_mI} {h k b : Nat} {v : Int32} (n : b ≠ k) : am_upI I h k v h b = I h b := if_neg (fun q => n q.2)
/-- what a board's deed leaves alone -/
def am_Fx (I I1 : am_mI) : Prop := ∀ k, k < 2 ∨ 12 ≤ k → I1 k = I k
def am_Fm (A A1 : am_mI) : Prop := ∀ k, 11 ≤ k → A1 k = A k
theorem am_Fx.me (I : am_mI) : am_Fx I I := fun _ _ => rfl
theorem am_Fm.me (A : am_mI) : am_Fm A A := fun _ _ => rfl
theorem am_Fx.trans {I I1 I2 : am_mI} (h : am_Fx I I1) (g : am_Fx I1 I2) : am_Fx I I2 := fun k hk => (g k hk).trans (h k hk)
theorem am_Fm.trans {I I1 I2 : am_mI} (h : am_Fm I I1) (g : am_Fm I1 I2) : am_Fm I I2 := fun k hk => (g k hk).trans (h k hk)
theorem am_Fx.up {I I1 : am_mI} (h : am_Fx I I1) {k i : Nat} {v : Int32} (hk : 2 ≤ k ∧ k < 12) : am_Fx I (am_upI I1 k i v) := fun q hq => (am_upI_ne (by omega)).trans (h q hq)
theorem am_Fm.up {I I1 : am_mI} (h : am_Fm I I1) {k i : Nat} {v : Int32} (hk : k < 11) : am_Fm I (am_upI I1 k i v) := fun q hq => (am_upI_ne (by omega)).trans (h q hq)
/-- the board at x's cell b against nine rows and six numbers -/
def am_Bd (I : am_mI) (b : Nat) (r : Nat → Nat → Int32) (n : Nat → Int32) : Prop := (I (b + 1) = r 0) ∧ (I (b + 2) = r 1) ∧ (I (b + 3) = r 2) ∧ (I (b + 4) = r 3) ∧ (I (b + 5) = r 4) ∧ (I (b + 6) = r 5) ∧ (I (b + 7) = r 6) ∧ (I (b + 8) = r 7) ∧ (I (b + 9) = r 8) ∧ (I b 3 = n 0) ∧ (I b 10 = n 1) ∧ (I b 11 = n 2) ∧ (I b 12 = n 3) ∧ (I b 13 = n 4) ∧ (I b 14 = n 5)
theorem am_Bd.r0 {I : am_mI} {b : Nat} {r : Nat → Nat → Int32} {n : Nat → Int32} (h : am_Bd I b r n) : I (b + 1) = r 0 := h.1
theorem am_Bd.r1 {I : am_mI} {b : Nat} {r : Nat → Nat → Int32} {n : Nat → Int32} (h : am_Bd I b r n) : I (b + 2) = r 1 := h.2.1
theorem am_Bd.r2 {I : am_mI} {b : Nat} {r : Nat → Nat → Int32} {n : Nat → Int32} (h : am_Bd I b r n) : I (b + 3) = r 2 := h.2.2.1
theorem am_Bd.r3 {I : am_mI} {b : Nat} {r : Nat → Nat → Int32} {n : Nat → Int32} (h : am_Bd I b r n) : I (b + 4) = r 3 := h.2.2.2.1
theorem am_Bd.r4 {I : am_mI} {b : Nat} {r : Nat → Nat → Int32} {n : Nat → Int32} (h : am_Bd I b r n) : I (b + 5) = r 4 := h.2.2.2.2.1
theorem am_Bd.r5 {I : am_mI} {b : Nat} {r : Nat → Nat → Int32} {n : Nat → Int32} (h : am_Bd I b r n) : I (b + 6) = r 5 := h.2.2.2.2.2.1
theorem am_Bd.r6 {I : am_mI} {b : Nat} {r : Nat → Nat → Int32} {n : Nat → Int32} (h : am_Bd I b r n) : I (b + 7) = r 6 := h.2.2.2.2.2.2.1
theorem am_Bd.r7 {I : am_mI} {b : Nat} {r : Nat → Nat → Int32} {n : Nat → Int32} (h : am_Bd I b r n) : I (b + 8) = r 7 := h.2.2.2.2.2.2.2.1
theorem am_Bd.r8 {I : am_mI} {b : Nat} {r : Nat → Nat → Int32} {n : Nat → Int32} (h : am_Bd I b r n) : I (b + 9) = r 8 := h.2.2.2.2.2.2.2.2.1
theorem am_Bd.n0 {I : am_mI} {b : Nat} {r : Nat → Nat → Int32} {n : Nat → Int32} (h : am_Bd I b r n) : I b 3 = n 0 := h.2.2.2.2.2.2.2.2.2.1
theorem am_Bd.n1 {I : am_mI} {b : Nat} {r : Nat → Nat → Int32} {n : Nat → Int32} (h : am_Bd I b r n) : I b 10 = n 1 := h.2.2.2.2.2.2.2.2.2.2.1
theorem am_Bd.n2 {I : am_mI} {b : Nat} {r : Nat → Nat → Int32} {n : Nat → Int32} (h : am_Bd I b r n) : I b 11 = n 2 := h.2.2.2.2.2.2.2.2.2.2.2.1
theorem am_Bd.n3 {I : am_mI} {b : Nat} {r : Nat → Nat → Int32} {n : Nat → Int32} (h : am_Bd I b r n) : I b 12 = n 3 := h.2.2.2.2.2.2.2.2.2.2.2.2.1
theorem am_Bd.n4 {I : am_mI} {b : Nat} {r : Nat → Nat → Int32} {n : Nat → Int32} (h : am_Bd I b r n) : I b 13 = n 4 := h.2.2.2.2.2.2.2.2.2.2.2.2.2.1
theorem am_Bd.n5 {I : am_mI} {b : Nat} {r : Nat → Nat → Int32} {n : Nat → Int32} (h : am_Bd I b r n) : I b 14 = n 5 := h.2.2.2.2.2.2.2.2.2.2.2.2.2.2
/-- m's board: rows and numbers -/
def am_mr (A : am_mI) (q : Nat) : Nat → Int32 := A (q + 2)
def am_mn (A : am_mI) (q : Nat) : Int32 := A 0 q
theorem am_in {x : Int32} {n : Nat} (h0 : ¬ x < 0) (h1 : x.toInt < n) : ¬ (x < 0 ∨ n ≤ x.toNatClampNeg) := by
  rintro (h | h)
  · exact h0 h
  · have h2 : 0 ≤ x.toInt := by
      rw [Int32.lt_iff_toInt_lt] at h0
      have : (0 : Int32).toInt = 0 := rfl
      omega
    have h3 : x.toNatClampNeg = x.toInt.toNat := rfl
    omega
/-- refusals: the two ways of counting them -/
def am_Rf (I A : am_mI) : Prop := (I 40 0 = A 1 1) ∧ (I 40 1 = A 1 2) ∧ (I 40 2 = A 1 3) ∧ (I 40 3 = A 1 4) ∧ (I 40 4 = A 1 5) ∧ (I 40 5 = A 1 6) ∧ (I 40 6 = A 1 7)
theorem am_Rf.q1 {I A : am_mI} (h : am_Rf I A) : I 40 0 = A 1 1 := h.1
theorem am_Rf.q2 {I A : am_mI} (h : am_Rf I A) : I 40 1 = A 1 2 := h.2.1
theorem am_Rf.q3 {I A : am_mI} (h : am_Rf I A) : I 40 2 = A 1 3 := h.2.2.1
theorem am_Rf.q4 {I A : am_mI} (h : am_Rf I A) : I 40 3 = A 1 4 := h.2.2.2.1
theorem am_Rf.q5 {I A : am_mI} (h : am_Rf I A) : I 40 4 = A 1 5 := h.2.2.2.2.1
theorem am_Rf.q6 {I A : am_mI} (h : am_Rf I A) : I 40 5 = A 1 6 := h.2.2.2.2.2.1
theorem am_Rf.q7 {I A : am_mI} (h : am_Rf I A) : I 40 6 = A 1 7 := h.2.2.2.2.2.2
theorem refuse6 (I : am_mI) (J : am_mJ) : DX7_refuse I J (-6) = some (-6, am_upI I 40 5 (I 40 5 + 1), J) := rfl
theorem mno6 (I : am_mI) (J : am_mJ) : DX8_no I J (-6) = some (-6, am_upI I 1 6 (I 1 6 + 1), J) := rfl
/-- shelf s of both -/
def am_Sh (I : am_mI) (J : am_mJ) (A : am_mI) (B : am_mJ) (s : Nat) : Prop :=
  I (41 + 2 * s) 1 = A 11 s ∧ I (41 + 2 * s) 2 = A 12 s ∧ (A 11 s = 1 → I (41 + 2 * s) 3 = A 13 s) ∧ (¬ A 11 s = 1 → I (41 + 2 * s) 3 = 0) ∧ (A 11 s = 2 → I (41 + 2 * s) 4 = A 14 s) ∧
  (A 11 s = 0 ∨ A 11 s = 1 ∨ A 11 s = 2) ∧ (0 ≤ (A 13 s).toInt ∧ (A 13 s).toInt ≤ 160) ∧ (0 ≤ (A 12 s).toInt ∧ (A 12 s).toInt ≤ 3) ∧ (A 11 s = 2 → 0 ≤ (A 14 s).toInt ∧ (A 14 s).toInt < 8) ∧ ∀ i, i < 160 → J (42 + 2 * s) i = B 15 (160 * s + i)
/-- the image of both -/
def am_Im (I A : am_mI) : Prop := I 0 4 = A 0 38 ∧ (A 0 38 = 0 ∨ A 0 38 = 1) ∧ (A 0 38 = 1 →
  (∀ i, i < 8 → I 23 i = A 20 i ∧ I 24 i = A 20 (8 + i) ∧ I 25 i = A 20 (16 + i)) ∧
  (∀ i, i < 24 → I 26 i = A 20 (24 + i) ∧ I 27 i = A 20 (48 + i) ∧ I 28 i = A 20 (72 + i) ∧ I 29 i = A 20 (96 + i) ∧ I 30 i = A 20 (120 + i) ∧ I 31 i = A 20 (144 + i)) ∧
  I 22 3 = A 20 168 ∧ I 22 10 = A 20 169 ∧ I 22 11 = A 20 170 ∧ I 22 12 = A 20 171 ∧ I 22 13 = A 20 172 ∧ I 22 14 = A 20 173)
/-- what the acts left -/
def am_Ac (I A : am_mI) : Prop := I 38 1 = A 0 37 ∧ (0 ≤ (A 0 37).toInt ∧ (A 0 37).toInt ≤ 1000) ∧ ∀ i, i < 20 → I 39 i = A 25 i
/-- how far a board's numbers reach after t told things -/
def am_Rg (t : Nat) (r : Nat → Nat → Int32) (n : Nat → Int32) : Prop :=
  (0 ≤ (n 0).toInt ∧ (n 0).toInt ≤ 8) ∧ (0 ≤ (n 1).toInt ∧ (n 1).toInt ≤ 2) ∧ (0 ≤ (n 2).toInt ∧ (n 2).toInt ≤ 99) ∧ (0 ≤ (n 3).toInt ∧ (n 3).toInt ≤ t) ∧ (0 ≤ (n 4).toInt ∧ (n 4).toInt ≤ t) ∧
  (∀ i, i < 8 → (0 ≤ (r 0 i).toInt ∧ (r 0 i).toInt ≤ 6) ∧ (0 ≤ (r 1 i).toInt ∧ (r 1 i).toInt ≤ 7) ∧ (0 ≤ (r 2 i).toInt ∧ (r 2 i).toInt ≤ 9)) ∧
  (∀ i, i < 24 → (-1 ≤ (r 3 i).toInt ∧ (r 3 i).toInt ≤ 7) ∧ (-1 ≤ (r 4 i).toInt ∧ (r 4 i).toInt < (n 0).toInt) ∧ (-1 ≤ (r 5 i).toInt ∧ (r 5 i).toInt < (n 0).toInt)) ∧
  (∀ i, i < 24 → (0 ≤ (r 6 i).toInt ∧ (r 6 i).toInt ≤ t) ∧ (0 ≤ (r 7 i).toInt ∧ (r 7 i).toInt ≤ t) ∧ (0 ≤ (r 8 i).toInt ∧ (r 8 i).toInt ≤ t))
/-- the image's rows and numbers out of m's 180 -/
def am_kr (A : am_mI) (q i : Nat) : Int32 := A 20 ((if q < 3 then 8 * q else 24 * q - 48) + i)
def am_kn (A : am_mI) (q : Nat) : Int32 := A 20 (168 + q)
/-- what shelves show is a stuff -/
def am_St (A : am_mI) : Prop := ∀ s, s < 8 → A 11 s = 2 → (A 14 s).toInt < (A 0 0).toInt
/-- beyond the rows of a board and of a draft -/
def am_Ot (I A : am_mI) : Prop := (∀ i, 8 ≤ i → A 2 i = 0 ∧ A 3 i = 0 ∧ A 4 i = 0 ∧ I 13 i = 0 ∧ I 14 i = 0 ∧ I 15 i = 0) ∧ (∀ i, 24 ≤ i → A 5 i = -1 ∧ A 6 i = -1 ∧ A 7 i = -1 ∧ A 8 i = 0 ∧ A 9 i = 0 ∧ A 10 i = 0 ∧ I 16 i = -1 ∧ I 17 i = -1 ∧ I 18 i = -1 ∧ I 19 i = 0 ∧ I 20 i = 0 ∧ I 21 i = 0)
/-- the tie of the two memories after t told things -/
def am_Iv (t : Nat) (I : am_mI) (J : am_mJ) (A : am_mI) (B : am_mJ) : Prop := am_Bd I 2 (am_mr A) (am_mn A) ∧ am_Rf I A ∧ I 0 6 = A 0 6 ∧ (∀ s, s < 8 → am_Sh I J A B s) ∧ am_Im I A ∧ am_Ac I A ∧ am_Rg t (am_mr A) (am_mn A) ∧ (A 0 38 = 1 → am_Rg t (am_kr A) (am_kn A)) ∧ A 17 = am_nthI am_told ∧ am_St A ∧ am_Ot I A
theorem am_Iv.bd {t : Nat} {I : am_mI} {J : am_mJ} {A : am_mI} {B : am_mJ} (h : am_Iv t I J A B) : am_Bd I 2 (am_mr A) (am_mn A) := h.1
theorem am_Iv.rf {t : Nat} {I : am_mI} {J : am_mJ} {A : am_mI} {B : am_mJ} (h : am_Iv t I J A B) : am_Rf I A := h.2.1
theorem am_Iv.ft {t : Nat} {I : am_mI} {J : am_mJ} {A : am_mI} {B : am_mJ} (h : am_Iv t I J A B) : I 0 6 = A 0 6 := h.2.2.1
theorem am_Iv.sh {t : Nat} {I : am_mI} {J : am_mJ} {A : am_mI} {B : am_mJ} (h : am_Iv t I J A B) : ∀ s, s < 8 → am_Sh I J A B s := h.2.2.2.1
theorem am_Iv.im {t : Nat} {I : am_mI} {J : am_mJ} {A : am_mI} {B : am_mJ} (h : am_Iv t I J A B) : am_Im I A := h.2.2.2.2.1
theorem am_Iv.ac {t : Nat} {I : am_mI} {J : am_mJ} {A : am_mI} {B : am_mJ} (h : am_Iv t I J A B) : am_Ac I A := h.2.2.2.2.2.1
theorem am_Iv.rg {t : Nat} {I : am_mI} {J : am_mJ} {A : am_mI} {B : am_mJ} (h : am_Iv t I J A B) : am_Rg t (am_mr A) (am_mn A) := h.2.2.2.2.2.2.1
theorem am_Iv.kg {t : Nat} {I : am_mI} {J : am_mJ} {A : am_mI} {B : am_mJ} (h : am_Iv t I J A B) : A 0 38 = 1 → am_Rg t (am_kr A) (am_kn A) := h.2.2.2.2.2.2.2.1
theorem am_Iv.wd {t : Nat} {I : am_mI} {J : am_mJ} {A : am_mI} {B : am_mJ} (h : am_Iv t I J A B) : A 17 = am_nthI am_told := h.2.2.2.2.2.2.2.2.1
theorem am_Iv.st {t : Nat} {I : am_mI} {J : am_mJ} {A : am_mI} {B : am_mJ} (h : am_Iv t I J A B) : am_St A := h.2.2.2.2.2.2.2.2.2.1
theorem am_Iv.ot {t : Nat} {I : am_mI} {J : am_mJ} {A : am_mI} {B : am_mJ} (h : am_Iv t I J A B) : am_Ot I A := h.2.2.2.2.2.2.2.2.2.2

theorem am_Rg.more {t u : Nat} (htu : t ≤ u) {r : Nat → Nat → Int32} {n : Nat → Int32} (h : am_Rg t r n) : am_Rg u r n := by
  obtain ⟨h0, h1, h2, h3, h4, h5, h6, h7⟩ := h
  refine ⟨h0, h1, h2, ⟨h3.1, by omega⟩, ⟨h4.1, by omega⟩, h5, h6, fun i hi => ?_⟩
  obtain ⟨a, b, c⟩ := h7 i hi
  exact ⟨⟨a.1, by omega⟩, ⟨b.1, by omega⟩, ⟨c.1, by omega⟩⟩
theorem am_Iv.more {t u : Nat} (htu : t ≤ u) {I : am_mI} {J : am_mJ} {A : am_mI} {B : am_mJ} (h : am_Iv t I J A B) : am_Iv u I J A B := ⟨h.bd, h.rf, h.ft, h.sh, h.im, h.ac, h.rg.more htu, fun q => (h.kg q).more htu, h.wd, h.st, h.ot⟩
/-- both answer the same and the tie holds on -/
def am_Tw (t : Nat) (o p : Option (Int32 × am_mI × am_mJ)) : Prop := ∃ (r : Int32) (I : am_mI) (J : am_mJ) (A : am_mI) (B : am_mJ), o = some (r, I, J) ∧ p = some (r, A, B) ∧ am_Iv t I J A B
theorem am_Tw.mk {t : Nat} {r : Int32} {I : am_mI} {J : am_mJ} {A : am_mI} {B : am_mJ} (h : am_Iv t I J A B) : am_Tw t (some (r, I, J)) (some (r, A, B)) := ⟨r, I, J, A, B, rfl, rfl, h⟩
theorem am_Tw.mk1 {t : Nat} {r : Int32} {I : am_mI} {J : am_mJ} {A : am_mI} {B : am_mJ} (h : am_Iv t I J A B) : am_Tw (t + 20000) (some (r, I, J)) (some (r, A, B)) := .mk (h.more (Nat.le_add_right t 20000))
theorem am_Sh.off {I I1 A A1 : am_mI} {J J1 B B1 : am_mJ} {s : Nat} (h : am_Sh I J A B s) (e1 : I1 (41 + 2 * s) = I (41 + 2 * s)) (e2 : J1 (42 + 2 * s) = J (42 + 2 * s)) (e3 : A1 11 = A 11) (e4 : A1 12 = A 12) (e5 : A1 13 = A 13) (e6 : A1 14 = A 14) (e7 : B1 15 = B 15) : am_Sh I1 J1 A1 B1 s := by
  unfold am_Sh at h ⊢
  rw [e1, e2, e3, e4, e5, e6, e7]
  exact h
theorem am_Iv.no1 {t : Nat} {I : am_mI} {J : am_mJ} {A : am_mI} {B : am_mJ} (h : am_Iv t I J A B) : am_Iv t (am_upI I 40 0 (I 40 0 + 1)) J (am_upI A 1 1 (A 1 1 + 1)) B :=
  ⟨⟨h.bd.r0, h.bd.r1, h.bd.r2, h.bd.r3, h.bd.r4, h.bd.r5, h.bd.r6, h.bd.r7, h.bd.r8, h.bd.n0, h.bd.n1, h.bd.n2, h.bd.n3, h.bd.n4, h.bd.n5⟩, ⟨congrArg (· + 1) h.rf.q1, h.rf.q2, h.rf.q3, h.rf.q4, h.rf.q5, h.rf.q6, h.rf.q7⟩, h.ft, fun s hs => (h.sh s hs).off (am_upI_ne (by omega)) rfl rfl rfl rfl rfl rfl, h.im, h.ac, h.rg, h.kg, h.wd, h.st, h.ot⟩
theorem refuse1 (I : am_mI) (J : am_mJ) : DX7_refuse I J (-1) = some (-1, am_upI I 40 0 (I 40 0 + 1), J) := rfl
theorem mno1 (I : am_mI) (J : am_mJ) : DX8_no I J (-1) = some (-1, am_upI I 1 1 (I 1 1 + 1), J) := rfl
theorem refuseTen1 (I : am_mI) (J : am_mJ) : DX7_refuse I J (-11) = some (-11, am_upI I 40 0 (I 40 0 + 1), J) := rfl
theorem mnoTen1 (I : am_mI) (J : am_mJ) : DX8_noTen I J (-1) = some (-11, am_upI I 1 1 (I 1 1 + 1), J) := rfl
theorem am_Tw.no1 {t : Nat} {I : am_mI} {J : am_mJ} {A : am_mI} {B : am_mJ} (h : am_Iv t I J A B) : am_Tw (t + 20000) ((DX7_refuse I J (-1)).bind fun q => some (q.1, q.2.1, q.2.2)) ((DX8_no A B (-1)).bind fun q => some (q.1, q.2.1, q.2.2)) := by
  rw [refuse1, mno1]
  exact .mk1 h.no1
theorem am_Tw.noTen1 {t : Nat} {I : am_mI} {J : am_mJ} {A : am_mI} {B : am_mJ} (h : am_Iv t I J A B) : am_Tw (t + 20000) ((DX7_refuse I J (-11)).bind fun q => some (q.1, q.2.1, q.2.2)) ((DX8_noTen A B (-1)).bind fun q => some (q.1, q.2.1, q.2.2)) := by
  rw [refuseTen1, mnoTen1]
  exact .mk1 h.no1
theorem am_Iv.no2 {t : Nat} {I : am_mI} {J : am_mJ} {A : am_mI} {B : am_mJ} (h : am_Iv t I J A B) : am_Iv t (am_upI I 40 1 (I 40 1 + 1)) J (am_upI A 1 2 (A 1 2 + 1)) B :=
  ⟨⟨h.bd.r0, h.bd.r1, h.bd.r2, h.bd.r3, h.bd.r4, h.bd.r5, h.bd.r6, h.bd.r7, h.bd.r8, h.bd.n0, h.bd.n1, h.bd.n2, h.bd.n3, h.bd.n4, h.bd.n5⟩, ⟨h.rf.q1, congrArg (· + 1) h.rf.q2, h.rf.q3, h.rf.q4, h.rf.q5, h.rf.q6, h.rf.q7⟩, h.ft, fun s hs => (h.sh s hs).off (am_upI_ne (by omega)) rfl rfl rfl rfl rfl rfl, h.im, h.ac, h.rg, h.kg, h.wd, h.st, h.ot⟩
theorem refuse2 (I : am_mI) (J : am_mJ) : DX7_refuse I J (-2) = some (-2, am_upI I 40 1 (I 40 1 + 1), J) := rfl
theorem mno2 (I : am_mI) (J : am_mJ) : DX8_no I J (-2) = some (-2, am_upI I 1 2 (I 1 2 + 1), J) := rfl
theorem refuseTen2 (I : am_mI) (J : am_mJ) : DX7_refuse I J (-12) = some (-12, am_upI I 40 1 (I 40 1 + 1), J) := rfl
theorem mnoTen2 (I : am_mI) (J : am_mJ) : DX8_noTen I J (-2) = some (-12, am_upI I 1 2 (I 1 2 + 1), J) := rfl
theorem am_Tw.no2 {t : Nat} {I : am_mI} {J : am_mJ} {A : am_mI} {B : am_mJ} (h : am_Iv t I J A B) : am_Tw (t + 20000) ((DX7_refuse I J (-2)).bind fun q => some (q.1, q.2.1, q.2.2)) ((DX8_no A B (-2)).bind fun q => some (q.1, q.2.1, q.2.2)) := by
  rw [refuse2, mno2]
  exact .mk1 h.no2
theorem am_Tw.noTen2 {t : Nat} {I : am_mI} {J : am_mJ} {A : am_mI} {B : am_mJ} (h : am_Iv t I J A B) : am_Tw (t + 20000) ((DX7_refuse I J (-12)).bind fun q => some (q.1, q.2.1, q.2.2)) ((DX8_noTen A B (-2)).bind fun q => some (q.1, q.2.1, q.2.2)) := by
  rw [refuseTen2, mnoTen2]
  exact .mk1 h.no2
theorem am_Iv.no3 {t : Nat} {I : am_mI} {J : am_mJ} {A : am_mI} {B : am_mJ} (h : am_Iv t I J A B) : am_Iv t (am_upI I 40 2 (I 40 2 + 1)) J (am_upI A 1 3 (A 1 3 + 1)) B :=
  ⟨⟨h.bd.r0, h.bd.r1, h.bd.r2, h.bd.r3, h.bd.r4, h.bd.r5, h.bd.r6, h.bd.r7, h.bd.r8, h.bd.n0, h.bd.n1, h.bd.n2, h.bd.n3, h.bd.n4, h.bd.n5⟩, ⟨h.rf.q1, h.rf.q2, congrArg (· + 1) h.rf.q3, h.rf.q4, h.rf.q5, h.rf.q6, h.rf.q7⟩, h.ft, fun s hs => (h.sh s hs).off (am_upI_ne (by omega)) rfl rfl rfl rfl rfl rfl, h.im, h.ac, h.rg, h.kg, h.wd, h.st, h.ot⟩
theorem refuse3 (I : am_mI) (J : am_mJ) : DX7_refuse I J (-3) = some (-3, am_upI I 40 2 (I 40 2 + 1), J) := rfl
theorem mno3 (I : am_mI) (J : am_mJ) : DX8_no I J (-3) = some (-3, am_upI I 1 3 (I 1 3 + 1), J) := rfl
theorem refuseTen3 (I : am_mI) (J : am_mJ) : DX7_refuse I J (-13) = some (-13, am_upI I 40 2 (I 40 2 + 1), J) := rfl
theorem mnoTen3 (I : am_mI) (J : am_mJ) : DX8_noTen I J (-3) = some (-13, am_upI I 1 3 (I 1 3 + 1), J) := rfl
theorem am_Tw.no3 {t : Nat} {I : am_mI} {J : am_mJ} {A : am_mI} {B : am_mJ} (h : am_Iv t I J A B) : am_Tw (t + 20000) ((DX7_refuse I J (-3)).bind fun q => some (q.1, q.2.1, q.2.2)) ((DX8_no A B (-3)).bind fun q => some (q.1, q.2.1, q.2.2)) := by
  rw [refuse3, mno3]
  exact .mk1 h.no3
theorem am_Tw.noTen3 {t : Nat} {I : am_mI} {J : am_mJ} {A : am_mI} {B : am_mJ} (h : am_Iv t I J A B) : am_Tw (t + 20000) ((DX7_refuse I J (-13)).bind fun q => some (q.1, q.2.1, q.2.2)) ((DX8_noTen A B (-3)).bind fun q => some (q.1, q.2.1, q.2.2)) := by
  rw [refuseTen3, mnoTen3]
  exact .mk1 h.no3
theorem am_Iv.no4 {t : Nat} {I : am_mI} {J : am_mJ} {A : am_mI} {B : am_mJ} (h : am_Iv t I J A B) : am_Iv t (am_upI I 40 3 (I 40 3 + 1)) J (am_upI A 1 4 (A 1 4 + 1)) B :=
  ⟨⟨h.bd.r0, h.bd.r1, h.bd.r2, h.bd.r3, h.bd.r4, h.bd.r5, h.bd.r6, h.bd.r7, h.bd.r8, h.bd.n0, h.bd.n1, h.bd.n2, h.bd.n3, h.bd.n4, h.bd.n5⟩, ⟨h.rf.q1, h.rf.q2, h.rf.q3, congrArg (· + 1) h.rf.q4, h.rf.q5, h.rf.q6, h.rf.q7⟩, h.ft, fun s hs => (h.sh s hs).off (am_upI_ne (by omega)) rfl rfl rfl rfl rfl rfl, h.im, h.ac, h.rg, h.kg, h.wd, h.st, h.ot⟩
theorem refuse4 (I : am_mI) (J : am_mJ) : DX7_refuse I J (-4) = some (-4, am_upI I 40 3 (I 40 3 + 1), J) := rfl
theorem mno4 (I : am_mI) (J : am_mJ) : DX8_no I J (-4) = some (-4, am_upI I 1 4 (I 1 4 + 1), J) := rfl
theorem refuseTen4 (I : am_mI) (J : am_mJ) : DX7_refuse I J (-14) = some (-14, am_upI I 40 3 (I 40 3 + 1), J) := rfl
theorem mnoTen4 (I : am_mI) (J : am_mJ) : DX8_noTen I J (-4) = some (-14, am_upI I 1 4 (I 1 4 + 1), J) := rfl
theorem am_Tw.no4 {t : Nat} {I : am_mI} {J : am_mJ} {A : am_mI} {B : am_mJ} (h : am_Iv t I J A B) : am_Tw (t + 20000) ((DX7_refuse I J (-4)).bind fun q => some (q.1, q.2.1, q.2.2)) ((DX8_no A B (-4)).bind fun q => some (q.1, q.2.1, q.2.2)) := by
  rw [refuse4, mno4]
  exact .mk1 h.no4
theorem am_Tw.noTen4 {t : Nat} {I : am_mI} {J : am_mJ} {A : am_mI} {B : am_mJ} (h : am_Iv t I J A B) : am_Tw (t + 20000) ((DX7_refuse I J (-14)).bind fun q => some (q.1, q.2.1, q.2.2)) ((DX8_noTen A B (-4)).bind fun q => some (q.1, q.2.1, q.2.2)) := by
  rw [refuseTen4, mnoTen4]
  exact .mk1 h.no4
theorem am_Iv.no5 {t : Nat} {I : am_mI} {J : am_mJ} {A : am_mI} {B : am_mJ} (h : am_Iv t I J A B) : am_Iv t (am_upI I 40 4 (I 40 4 + 1)) J (am_upI A 1 5 (A 1 5 + 1)) B :=
  ⟨⟨h.bd.r0, h.bd.r1, h.bd.r2, h.bd.r3, h.bd.r4, h.bd.r5, h.bd.r6, h.bd.r7, h.bd.r8, h.bd.n0, h.bd.n1, h.bd.n2, h.bd.n3, h.bd.n4, h.bd.n5⟩, ⟨h.rf.q1, h.rf.q2, h.rf.q3, h.rf.q4, congrArg (· + 1) h.rf.q5, h.rf.q6, h.rf.q7⟩, h.ft, fun s hs => (h.sh s hs).off (am_upI_ne (by omega)) rfl rfl rfl rfl rfl rfl, h.im, h.ac, h.rg, h.kg, h.wd, h.st, h.ot⟩
theorem refuse5 (I : am_mI) (J : am_mJ) : DX7_refuse I J (-5) = some (-5, am_upI I 40 4 (I 40 4 + 1), J) := rfl
theorem mno5 (I : am_mI) (J : am_mJ) : DX8_no I J (-5) = some (-5, am_upI I 1 5 (I 1 5 + 1), J) := rfl
theorem refuseTen5 (I : am_mI) (J : am_mJ) : DX7_refuse I J (-15) = some (-15, am_upI I 40 4 (I 40 4 + 1), J) := rfl
theorem mnoTen5 (I : am_mI) (J : am_mJ) : DX8_noTen I J (-5) = some (-15, am_upI I 1 5 (I 1 5 + 1), J) := rfl
theorem am_Tw.no5 {t : Nat} {I : am_mI} {J : am_mJ} {A : am_mI} {B : am_mJ} (h : am_Iv t I J A B) : am_Tw (t + 20000) ((DX7_refuse I J (-5)).bind fun q => some (q.1, q.2.1, q.2.2)) ((DX8_no A B (-5)).bind fun q => some (q.1, q.2.1, q.2.2)) := by
  rw [refuse5, mno5]
  exact .mk1 h.no5
theorem am_Tw.noTen5 {t : Nat} {I : am_mI} {J : am_mJ} {A : am_mI} {B : am_mJ} (h : am_Iv t I J A B) : am_Tw (t + 20000) ((DX7_refuse I J (-15)).bind fun q => some (q.1, q.2.1, q.2.2)) ((DX8_noTen A B (-5)).bind fun q => some (q.1, q.2.1, q.2.2)) := by
  rw [refuseTen5, mnoTen5]
  exact .mk1 h.no5
theorem am_Iv.no6 {t : Nat} {I : am_mI} {J : am_mJ} {A : am_mI} {B : am_mJ} (h : am_Iv t I J A B) : am_Iv t (am_upI I 40 5 (I 40 5 + 1)) J (am_upI A 1 6 (A 1 6 + 1)) B :=
  ⟨⟨h.bd.r0, h.bd.r1, h.bd.r2, h.bd.r3, h.bd.r4, h.bd.r5, h.bd.r6, h.bd.r7, h.bd.r8, h.bd.n0, h.bd.n1, h.bd.n2, h.bd.n3, h.bd.n4, h.bd.n5⟩, ⟨h.rf.q1, h.rf.q2, h.rf.q3, h.rf.q4, h.rf.q5, congrArg (· + 1) h.rf.q6, h.rf.q7⟩, h.ft, fun s hs => (h.sh s hs).off (am_upI_ne (by omega)) rfl rfl rfl rfl rfl rfl, h.im, h.ac, h.rg, h.kg, h.wd, h.st, h.ot⟩
theorem refuseTen6 (I : am_mI) (J : am_mJ) : DX7_refuse I J (-16) = some (-16, am_upI I 40 5 (I 40 5 + 1), J) := rfl
theorem mnoTen6 (I : am_mI) (J : am_mJ) : DX8_noTen I J (-6) = some (-16, am_upI I 1 6 (I 1 6 + 1), J) := rfl
theorem am_Tw.no6 {t : Nat} {I : am_mI} {J : am_mJ} {A : am_mI} {B : am_mJ} (h : am_Iv t I J A B) : am_Tw (t + 20000) ((DX7_refuse I J (-6)).bind fun q => some (q.1, q.2.1, q.2.2)) ((DX8_no A B (-6)).bind fun q => some (q.1, q.2.1, q.2.2)) := by
  rw [refuse6, mno6]
  exact .mk1 h.no6
theorem am_Tw.noTen6 {t : Nat} {I : am_mI} {J : am_mJ} {A : am_mI} {B : am_mJ} (h : am_Iv t I J A B) : am_Tw (t + 20000) ((DX7_refuse I J (-16)).bind fun q => some (q.1, q.2.1, q.2.2)) ((DX8_noTen A B (-6)).bind fun q => some (q.1, q.2.1, q.2.2)) := by
  rw [refuseTen6, mnoTen6]
  exact .mk1 h.no6
theorem am_Iv.no7 {t : Nat} {I : am_mI} {J : am_mJ} {A : am_mI} {B : am_mJ} (h : am_Iv t I J A B) : am_Iv t (am_upI I 40 6 (I 40 6 + 1)) J (am_upI A 1 7 (A 1 7 + 1)) B :=
  ⟨⟨h.bd.r0, h.bd.r1, h.bd.r2, h.bd.r3, h.bd.r4, h.bd.r5, h.bd.r6, h.bd.r7, h.bd.r8, h.bd.n0, h.bd.n1, h.bd.n2, h.bd.n3, h.bd.n4, h.bd.n5⟩, ⟨h.rf.q1, h.rf.q2, h.rf.q3, h.rf.q4, h.rf.q5, h.rf.q6, congrArg (· + 1) h.rf.q7⟩, h.ft, fun s hs => (h.sh s hs).off (am_upI_ne (by omega)) rfl rfl rfl rfl rfl rfl, h.im, h.ac, h.rg, h.kg, h.wd, h.st, h.ot⟩
theorem refuse7 (I : am_mI) (J : am_mJ) : DX7_refuse I J (-7) = some (-7, am_upI I 40 6 (I 40 6 + 1), J) := rfl
theorem mno7 (I : am_mI) (J : am_mJ) : DX8_no I J (-7) = some (-7, am_upI I 1 7 (I 1 7 + 1), J) := rfl
theorem refuseTen7 (I : am_mI) (J : am_mJ) : DX7_refuse I J (-17) = some (-17, am_upI I 40 6 (I 40 6 + 1), J) := rfl
theorem mnoTen7 (I : am_mI) (J : am_mJ) : DX8_noTen I J (-7) = some (-17, am_upI I 1 7 (I 1 7 + 1), J) := rfl
theorem am_Tw.no7 {t : Nat} {I : am_mI} {J : am_mJ} {A : am_mI} {B : am_mJ} (h : am_Iv t I J A B) : am_Tw (t + 20000) ((DX7_refuse I J (-7)).bind fun q => some (q.1, q.2.1, q.2.2)) ((DX8_no A B (-7)).bind fun q => some (q.1, q.2.1, q.2.2)) := by
  rw [refuse7, mno7]
  exact .mk1 h.no7
theorem am_Tw.noTen7 {t : Nat} {I : am_mI} {J : am_mJ} {A : am_mI} {B : am_mJ} (h : am_Iv t I J A B) : am_Tw (t + 20000) ((DX7_refuse I J (-17)).bind fun q => some (q.1, q.2.1, q.2.2)) ((DX8_noTen A B (-7)).bind fun q => some (q.1, q.2.1, q.2.2)) := by
  rw [refuseTen7, mnoTen7]
  exact .mk1 h.no7
theorem am_Iv.side {t : Nat} {I : am_mI} {J : am_mJ} {A : am_mI} {B : am_mJ} {v : Int32} (h : am_Iv t I J A B) (hv : 0 ≤ v.toInt ∧ v.toInt ≤ 2) : am_Iv t (am_upI I 2 10 v) J (am_upI A 0 1 v) B :=
  ⟨⟨h.bd.r0, h.bd.r1, h.bd.r2, h.bd.r3, h.bd.r4, h.bd.r5, h.bd.r6, h.bd.r7, h.bd.r8, h.bd.n0, rfl, h.bd.n2, h.bd.n3, h.bd.n4, h.bd.n5⟩, ⟨h.rf.q1, h.rf.q2, h.rf.q3, h.rf.q4, h.rf.q5, h.rf.q6, h.rf.q7⟩, h.ft, fun s hs => (h.sh s hs).off (am_upI_ne (by omega)) rfl rfl rfl rfl rfl rfl, h.im, h.ac, ⟨h.rg.1, hv, h.rg.2.2⟩, h.kg, h.wd, h.st, h.ot⟩
theorem am_Iv.seed {t : Nat} {I : am_mI} {J : am_mJ} {A : am_mI} {B : am_mJ} {v : Int32} (h : am_Iv t I J A B) : am_Iv t (am_upI I 2 14 v) J (am_upI A 0 5 v) B :=
  ⟨⟨h.bd.r0, h.bd.r1, h.bd.r2, h.bd.r3, h.bd.r4, h.bd.r5, h.bd.r6, h.bd.r7, h.bd.r8, h.bd.n0, h.bd.n1, h.bd.n2, h.bd.n3, h.bd.n4, rfl⟩, ⟨h.rf.q1, h.rf.q2, h.rf.q3, h.rf.q4, h.rf.q5, h.rf.q6, h.rf.q7⟩, h.ft, fun s hs => (h.sh s hs).off (am_upI_ne (by omega)) rfl rfl rfl rfl rfl rfl, h.im, h.ac, h.rg, h.kg, h.wd, h.st, h.ot⟩

theorem op_fault {t : Nat} {I : am_mI} {J : am_mJ} {A : am_mI} {B : am_mJ} (h : am_Iv t I J A B) : DX7_fault I = DX8_fault A := h.ft
theorem am_i32 {x y : Int32} : (x < y ↔ x.toInt < y.toInt) ∧ (x ≤ y ↔ x.toInt ≤ y.toInt) := ⟨Int32.lt_iff_toInt_lt, Int32.le_iff_toInt_le⟩
theorem op_side {t : Nat} {I : am_mI} {J : am_mJ} {A : am_mI} {B : am_mJ} (h : am_Iv t I J A B) (a : Int32) : am_Tw (t + 20000) (DX7_side I J a) (DX8_side A B a) := by
  unfold DX7_side DX8_side
  have q3 : (3 : Int32).toInt = 3 := rfl
  have q2 : (2 : Int32).toInt = 2 := rfl
  have q0 : (0 : Int32).toInt = 0 := rfl
  by_cases h0 : a < 0
  · rw [if_pos h0, if_pos h0]
    exact .no6 h
  · rw [if_neg h0, if_neg h0]
    have e : a < (3 : Int32) ↔ a ≤ (2 : Int32) := by
      rw [Int32.lt_iff_toInt_lt, Int32.le_iff_toInt_le]
      omega
    by_cases h1 : a < (3 : Int32)
    · rw [if_pos h1, if_pos (e.mp h1)]
      unfold DX1_turnTo DX1_sunnySide
      simp only [Option.bind_some]
      rw [show I 2 10 = A 0 1 from h.bd.n1]
      rw [Int32.lt_iff_toInt_lt] at h0 h1
      exact .mk1 (h.side (by omega))
    · rw [if_neg h1, if_neg (fun q => h1 (e.mpr q))]
      exact .no6 h
theorem op_seed {t : Nat} {I : am_mI} {J : am_mJ} {A : am_mI} {B : am_mJ} (h : am_Iv t I J A B) (a : Int32) : am_Tw (t + 20000) (DX7_seed I J a) (DX8_seed A B a) := by
  unfold DX7_seed DX8_seed DX1_sow DX1_seedNow
  simp only [Option.bind_some]
  rw [show I 2 14 = A 0 5 from h.bd.n5]
  exact .mk1 h.seed
