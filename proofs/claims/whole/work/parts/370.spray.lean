/-! SENTENCES: spraying -/
theorem am_Iv.wet {t : Nat} {I : am_mI} {J : am_mJ} {A : am_mI} {B : am_mJ} {v : Int32} (h : am_Iv t I J A B) (hv : 0 ≤ v.toInt ∧ v.toInt ≤ 99) : am_Iv t (am_upI I 2 11 v) J (am_upI A 0 2 v) B :=
  ⟨⟨h.bd.r0, h.bd.r1, h.bd.r2, h.bd.r3, h.bd.r4, h.bd.r5, h.bd.r6, h.bd.r7, h.bd.r8, h.bd.n0, h.bd.n1, rfl, h.bd.n3, h.bd.n4, h.bd.n5⟩, ⟨h.rf.q1, h.rf.q2, h.rf.q3, h.rf.q4, h.rf.q5, h.rf.q6, h.rf.q7⟩, h.ft, fun s hs => (h.sh s hs).off (am_upI_ne (by omega)) rfl rfl rfl rfl rfl rfl, h.im, h.ac, ⟨h.rg.1, h.rg.2.1, hv, h.rg.2.2.2⟩, h.kg, h.wd, h.st, h.ot⟩
theorem spray_sim {t : Nat} (ht : t ≤ 61440000) : ∀ (k n : Nat) (x : Int32) {I : am_mI} {J : am_mJ} {A : am_mI} {B : am_mJ}, am_Iv (t + 1) I J A B → 0 ≤ x.toInt → x.toInt + k = 24 → k < n → (∀ i : Nat, x.toInt ≤ i → i < 24 → (A 10 i).toInt ≤ t) →
    ∃ (I1 A1 : am_mI), LX1_sprayOnce n I J 2 x = some (0, I1, J) ∧ LX8_spray n A B x = some (A1 0 2, A1, B) ∧ am_Iv (t + 1) I1 J A1 B ∧ am_Fx I I1 ∧ am_Fm A A1 ∧ A1 0 = A 0 := by
  have v : (24 : Int32).toInt = 24 := rfl
  have v0 : (0 : Int32).toInt = 0 := rfl
  have v1 : (1 : Int32).toInt = 1 := rfl
  intro k
  induction k with
  | zero =>
    intro n x I J A B h h0 h1 hn hs
    obtain ⟨m, rfl⟩ : ∃ m, n = m + 1 := ⟨n - 1, by omega⟩
    have q : (24 : Int32) ≤ x := by
      rw [Int32.le_iff_toInt_le]
      omega
    refine ⟨I, A, ?_, ?_, h, am_Fx.me I, am_Fm.me A, rfl⟩
    · unfold LX1_sprayOnce
      rw [if_pos q]
    · unfold LX8_spray
      rw [if_pos q]
  | succ k ih =>
    intro n x I J A B h h0 h1 hn hs
    obtain ⟨m, rfl⟩ : ∃ m, n = m + 1 := ⟨n - 1, by omega⟩
    have e : x.toNatClampNeg = x.toInt.toNat := rfl
    have s : (x + 1).toInt = x.toInt + 1 := i32_succ (n := 24) (by omega) (by omega) (by omega)
    have q : ¬ (24 : Int32) ≤ x := by
      rw [Int32.le_iff_toInt_le]
      omega
    have g : ¬ (x < 0 ∨ 24 ≤ x.toNatClampNeg) := by
      rw [Int32.lt_iff_toInt_lt]
      omega
    unfold LX1_sprayOnce LX8_spray
    rw [if_neg q, if_pos g, if_neg q, if_pos g, show I (2 + 5) = A 6 from h.bd.r4]
    by_cases l : A 6 x.toNatClampNeg = -1
    · rw [if_pos l, if_pos g, if_pos l]
      exact ih m (x + 1) h (by omega) (by omega) (by omega) (fun i hi => hs i (by omega))
    · simp only [if_neg l, if_pos g]
      rw [show I (2 + 9) = A 10 from h.bd.r8]
      have b0 := (h.rg.2.2.2.2.2.2.2 x.toNatClampNeg (by omega)).2.2.1
      have b1 := hs x.toNatClampNeg (by omega) (by omega)
      have b2 : 0 ≤ (A 10 x.toNatClampNeg).toInt := b0
      have b3 : (A 10 x.toNatClampNeg + 1).toInt = (A 10 x.toNatClampNeg).toInt + 1 := by
        rw [Int32.toInt_add, v1]
        exact Int.bmod_eq_of_le (by omega) (by omega)
      obtain ⟨I1, A1, k1, k2, k3, k4, k5, k6⟩ := ih m (x + 1) (h.row8 (k := x.toNatClampNeg) (v := A 10 x.toNatClampNeg + 1) (by omega) (by omega)) (by omega) (by omega) (by omega) (fun i hi h24 => by
        rw [am_upI_no (by omega)]
        exact hs i (by omega) h24)
      exact ⟨I1, A1, k1, k2, k3, ((am_Fx.me I).up (by decide)).trans k4, ((am_Fm.me A).up (by decide)).trans k5, k6⟩
theorem sprayAs {t : Nat} (ht : t ≤ 61440000) {I : am_mI} {J : am_mJ} {A : am_mI} {B : am_mJ} (h : am_Iv t I J A B) : ∃ (I1 A1 : am_mI), DX1_sprayOnce I J 2 = some (0, I1, J) ∧ DX8_spray A B = some (A1 0 2, A1, B) ∧ am_Iv (t + 1) I1 J A1 B ∧ am_Fx I I1 ∧ am_Fm A A1 ∧ ∀ k, k ≠ 2 → A1 0 k = A 0 k := by
  have q10 : (10 : Int32).toInt = 10 := rfl
  have q89 : (89 : Int32).toInt = 89 := rfl
  have q99 : (99 : Int32).toInt = 99 := rfl
  have hw : 0 ≤ (A 0 2).toInt ∧ (A 0 2).toInt ≤ 99 := h.rg.2.2.1
  have s : (A 0 2 + 10).toInt = (A 0 2).toInt + 10 := by
    rw [Int32.toInt_add, q10]
    exact Int.bmod_eq_of_le (by omega) (by omega)
  have hs : ∀ i : Nat, i < 24 → (A 10 i).toInt ≤ t := fun i hi => (h.rg.2.2.2.2.2.2.2 i hi).2.2.2
  have key : ∀ v : Int32, 0 ≤ v.toInt ∧ v.toInt ≤ 99 → ∃ (I1 A1 : am_mI), LX1_sprayOnce am_FU (am_upI I 2 11 v) J 2 0 = some (0, I1, J) ∧ LX8_spray am_FU (am_upI A 0 2 v) B 0 = some (A1 0 2, A1, B) ∧ am_Iv (t + 1) I1 J A1 B ∧ am_Fx I I1 ∧ am_Fm A A1 ∧ ∀ k, k ≠ 2 → A1 0 k = A 0 k := by
    intro v hv
    obtain ⟨I1, A1, k1, k2, k3, k4, k5, k6⟩ := spray_sim ht 24 am_FU 0 ((h.wet hv).more (Nat.le_succ t)) (by decide) (by decide) (by decide) (fun i _ hi => hs i hi)
    exact ⟨I1, A1, k1, k2, k3, ((am_Fx.me I).up (by decide)).trans k4, ((am_Fm.me A).up (by decide)).trans k5, fun k hk => (congrFun k6 k).trans (am_upI_no hk)⟩
  unfold DX8_spray DX1_sprayOnce DX1_wetBySpray
  rw [show I 2 11 = A 0 2 from h.bd.n2]
  by_cases w : A 0 2 ≤ (89 : Int32)
  · rw [if_pos w]
    rw [Int32.le_iff_toInt_le] at w
    have z : (if A 0 2 + 10 < (99 : Int32) then A 0 2 + 10 else 99) = A 0 2 + 10 := by
      by_cases y : A 0 2 + 10 < (99 : Int32)
      · rw [if_pos y]
      · rw [if_neg y]
        rw [Int32.lt_iff_toInt_lt] at y
        exact Int32.toInt_inj.mp (by omega)
    obtain ⟨I1, A1, k1, k2, k3⟩ := key (A 0 2 + 10) (by omega)
    rw [z]
    exact ⟨I1, A1, k1, k2, k3⟩
  · rw [if_neg w]
    rw [Int32.le_iff_toInt_le] at w
    have z : (if A 0 2 + 10 < (99 : Int32) then A 0 2 + 10 else 99) = 99 := by
      rw [if_neg]
      rw [Int32.lt_iff_toInt_lt]
      omega
    obtain ⟨I1, A1, k1, k2, k3⟩ := key 99 (by omega)
    rw [z]
    exact ⟨I1, A1, k1, k2, k3⟩
theorem op_spray {t : Nat} (ht : t ≤ 61440000) {I : am_mI} {J : am_mJ} {A : am_mI} {B : am_mJ} (h : am_Iv t I J A B) : am_Tw (t + 20000) (DX7_spray I J) (DX8_spray A B) := by
  obtain ⟨I1, A1, k1, k2, k3, -⟩ := sprayAs ht h
  unfold DX7_spray DX1_wetness
  rw [k1, k2]
  exact ⟨A1 0 2, I1, J, A1, B, congrArg (fun r => some (r, I1, J)) k3.bd.n2, rfl, k3.more (by omega)⟩
