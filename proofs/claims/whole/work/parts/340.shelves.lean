/-! SENTENCES: shelves -/
theorem am_Iv.shelf {t : Nat} {I I1 : am_mI} {J J1 : am_mJ} {A A1 : am_mI} {B B1 : am_mJ} (h : am_Iv t I J A B) {s : Nat} (hs : s < 8) (e1 : ∀ k, k ≠ 41 + 2 * s → I1 k = I k) (e2 : ∀ k, k ≠ 42 + 2 * s → J1 k = J k)
    (e3 : ∀ k, k ≠ 11 → k ≠ 12 → k ≠ 13 → k ≠ 14 → A1 k = A k) (e4 : ∀ u, u ≠ s → A1 11 u = A 11 u ∧ A1 12 u = A 12 u ∧ A1 13 u = A 13 u ∧ A1 14 u = A 14 u) (e5 : ∀ u, u < 8 → u ≠ s → ∀ i, i < 160 → B1 15 (160 * u + i) = B 15 (160 * u + i)) (hq : am_Sh I1 J1 A1 B1 s) (hst : A1 11 s = 2 → (A1 14 s).toInt < (A 0 0).toInt) : am_Iv t I1 J1 A1 B1 := by
  refine ⟨⟨((e1 3 (by omega)).trans h.bd.r0).trans (e3 2 (by decide) (by decide) (by decide) (by decide)).symm, ((e1 4 (by omega)).trans h.bd.r1).trans (e3 3 (by decide) (by decide) (by decide) (by decide)).symm, ((e1 5 (by omega)).trans h.bd.r2).trans (e3 4 (by decide) (by decide) (by decide) (by decide)).symm, ((e1 6 (by omega)).trans h.bd.r3).trans (e3 5 (by decide) (by decide) (by decide) (by decide)).symm, ((e1 7 (by omega)).trans h.bd.r4).trans (e3 6 (by decide) (by decide) (by decide) (by decide)).symm, ((e1 8 (by omega)).trans h.bd.r5).trans (e3 7 (by decide) (by decide) (by decide) (by decide)).symm, ((e1 9 (by omega)).trans h.bd.r6).trans (e3 8 (by decide) (by decide) (by decide) (by decide)).symm, ((e1 10 (by omega)).trans h.bd.r7).trans (e3 9 (by decide) (by decide) (by decide) (by decide)).symm, ((e1 11 (by omega)).trans h.bd.r8).trans (e3 10 (by decide) (by decide) (by decide) (by decide)).symm, ((congrFun (e1 2 (by omega)) 3).trans h.bd.n0).trans (congrFun (e3 0 (by decide) (by decide) (by decide) (by decide)) 0).symm, ((congrFun (e1 2 (by omega)) 10).trans h.bd.n1).trans (congrFun (e3 0 (by decide) (by decide) (by decide) (by decide)) 1).symm, ((congrFun (e1 2 (by omega)) 11).trans h.bd.n2).trans (congrFun (e3 0 (by decide) (by decide) (by decide) (by decide)) 2).symm, ((congrFun (e1 2 (by omega)) 12).trans h.bd.n3).trans (congrFun (e3 0 (by decide) (by decide) (by decide) (by decide)) 3).symm, ((congrFun (e1 2 (by omega)) 13).trans h.bd.n4).trans (congrFun (e3 0 (by decide) (by decide) (by decide) (by decide)) 4).symm, ((congrFun (e1 2 (by omega)) 14).trans h.bd.n5).trans (congrFun (e3 0 (by decide) (by decide) (by decide) (by decide)) 5).symm⟩, ⟨((congrFun (e1 40 (by omega)) 0).trans h.rf.q1).trans (congrFun (e3 1 (by decide) (by decide) (by decide) (by decide)) 1).symm, ((congrFun (e1 40 (by omega)) 1).trans h.rf.q2).trans (congrFun (e3 1 (by decide) (by decide) (by decide) (by decide)) 2).symm, ((congrFun (e1 40 (by omega)) 2).trans h.rf.q3).trans (congrFun (e3 1 (by decide) (by decide) (by decide) (by decide)) 3).symm, ((congrFun (e1 40 (by omega)) 3).trans h.rf.q4).trans (congrFun (e3 1 (by decide) (by decide) (by decide) (by decide)) 4).symm, ((congrFun (e1 40 (by omega)) 4).trans h.rf.q5).trans (congrFun (e3 1 (by decide) (by decide) (by decide) (by decide)) 5).symm, ((congrFun (e1 40 (by omega)) 5).trans h.rf.q6).trans (congrFun (e3 1 (by decide) (by decide) (by decide) (by decide)) 6).symm, ((congrFun (e1 40 (by omega)) 6).trans h.rf.q7).trans (congrFun (e3 1 (by decide) (by decide) (by decide) (by decide)) 7).symm⟩, ((congrFun (e1 0 (by omega)) 6).trans h.ft).trans (congrFun (e3 0 (by decide) (by decide) (by decide) (by decide)) 6).symm, ?_, ?_, ?_, ?_, ?_, ((e3 17 (by decide) (by decide) (by decide) (by decide)).trans h.wd), ?_, ?_⟩
  · intro u hu
    by_cases q : u = s
    · rw [q]; exact hq
    · have hh := h.sh u hu
      obtain ⟨a1, a2, a3, a4⟩ := e4 u q
      unfold am_Sh at hh ⊢
      rw [e1 (41 + 2 * u) (by omega), e2 (42 + 2 * u) (by omega), a1, a2, a3, a4]
      exact ⟨hh.1, hh.2.1, hh.2.2.1, hh.2.2.2.1, hh.2.2.2.2.1, hh.2.2.2.2.2.1, hh.2.2.2.2.2.2.1, hh.2.2.2.2.2.2.2.1, hh.2.2.2.2.2.2.2.2.1, fun i hi => (hh.2.2.2.2.2.2.2.2.2 i hi).trans (e5 u hu q i hi).symm⟩
  · have := h.im
    unfold am_Im at this ⊢
    rw [(e1 0 (by omega)), (e1 22 (by omega)), (e1 23 (by omega)), (e1 24 (by omega)), (e1 25 (by omega)), (e1 26 (by omega)), (e1 27 (by omega)), (e1 28 (by omega)), (e1 29 (by omega)), (e1 30 (by omega)), (e1 31 (by omega)), (e3 0 (by decide) (by decide) (by decide) (by decide)), (e3 20 (by decide) (by decide) (by decide) (by decide))]
    exact this
  · have := h.ac
    unfold am_Ac at this ⊢
    rw [(e1 38 (by omega)), (e1 39 (by omega)), (e3 0 (by decide) (by decide) (by decide) (by decide)), (e3 25 (by decide) (by decide) (by decide) (by decide))]
    exact this
  · have := h.rg
    unfold am_Rg at this ⊢
    rw [show am_mr A1 0 = am_mr A 0 from (e3 2 (by decide) (by decide) (by decide) (by decide)), show am_mr A1 1 = am_mr A 1 from (e3 3 (by decide) (by decide) (by decide) (by decide)), show am_mr A1 2 = am_mr A 2 from (e3 4 (by decide) (by decide) (by decide) (by decide)), show am_mr A1 3 = am_mr A 3 from (e3 5 (by decide) (by decide) (by decide) (by decide)), show am_mr A1 4 = am_mr A 4 from (e3 6 (by decide) (by decide) (by decide) (by decide)), show am_mr A1 5 = am_mr A 5 from (e3 7 (by decide) (by decide) (by decide) (by decide)), show am_mr A1 6 = am_mr A 6 from (e3 8 (by decide) (by decide) (by decide) (by decide)), show am_mr A1 7 = am_mr A 7 from (e3 9 (by decide) (by decide) (by decide) (by decide)), show am_mr A1 8 = am_mr A 8 from (e3 10 (by decide) (by decide) (by decide) (by decide)), show am_mn A1 0 = am_mn A 0 from congrFun (e3 0 (by decide) (by decide) (by decide) (by decide)) 0, show am_mn A1 1 = am_mn A 1 from congrFun (e3 0 (by decide) (by decide) (by decide) (by decide)) 1, show am_mn A1 2 = am_mn A 2 from congrFun (e3 0 (by decide) (by decide) (by decide) (by decide)) 2, show am_mn A1 3 = am_mn A 3 from congrFun (e3 0 (by decide) (by decide) (by decide) (by decide)) 3, show am_mn A1 4 = am_mn A 4 from congrFun (e3 0 (by decide) (by decide) (by decide) (by decide)) 4]
    exact this
  · have z : am_kr A1 = am_kr A := by
      funext q i
      unfold am_kr
      rw [(e3 20 (by decide) (by decide) (by decide) (by decide))]
    have z2 : am_kn A1 = am_kn A := by
      funext q
      unfold am_kn
      rw [(e3 20 (by decide) (by decide) (by decide) (by decide))]
    rw [z, z2, (e3 0 (by decide) (by decide) (by decide) (by decide))]
    exact h.kg
  · intro u hu q
    rw [show A1 0 0 = A 0 0 from congrFun (e3 0 (by decide) (by decide) (by decide) (by decide)) 0]
    by_cases z : u = s
    · rw [z] at q ⊢
      exact hst q
    · obtain ⟨a1, -, -, a4⟩ := e4 u z
      rw [a1] at q
      rw [a4]
      exact h.st u hu q
  · have := h.ot
    unfold am_Ot at this ⊢
    rw [e1 13 (by omega), e1 14 (by omega), e1 15 (by omega), e1 16 (by omega), e1 17 (by omega), e1 18 (by omega), e1 19 (by omega), e1 20 (by omega), e1 21 (by omega), e3 2 (by decide) (by decide) (by decide) (by decide), e3 3 (by decide) (by decide) (by decide) (by decide), e3 4 (by decide) (by decide) (by decide) (by decide), e3 5 (by decide) (by decide) (by decide) (by decide), e3 6 (by decide) (by decide) (by decide) (by decide), e3 7 (by decide) (by decide) (by decide) (by decide), e3 8 (by decide) (by decide) (by decide) (by decide), e3 9 (by decide) (by decide) (by decide) (by decide), e3 10 (by decide) (by decide) (by decide) (by decide)]
    exact this
theorem shelf_in (a : Int32) : (DX7_shelfAt a = 0 ∧ DX8_isShelf a = 0) ∨ (∃ s, s < 8 ∧ a.toNatClampNeg = s ∧ a.toInt = (s : Int) ∧ DX7_shelfAt a = 41 + 2 * s ∧ ¬ DX8_isShelf a = 0 ∧ ¬ (a < 0 ∨ 8 ≤ a.toNatClampNeg)) := by
  have q0 : (0 : Int32).toInt = 0 := rfl
  have q8 : (8 : Int32).toInt = 8 := rfl
  have e : a.toNatClampNeg = a.toInt.toNat := rfl
  unfold DX7_shelfAt DX8_isShelf
  by_cases h0 : a < 0
  · left
    rw [if_pos h0, if_pos h0]
    exact ⟨rfl, rfl⟩
  · rw [if_neg h0, if_neg h0]
    by_cases h1 : (8 : Int32) ≤ a
    · left
      rw [if_pos h1, if_neg]
      · exact ⟨rfl, rfl⟩
      · rw [Int32.lt_iff_toInt_lt]
        rw [Int32.le_iff_toInt_le] at h1
        omega
    · right
      have h2 := h1
      have h3 := h0
      rw [Int32.le_iff_toInt_le] at h2
      rw [Int32.lt_iff_toInt_lt] at h3
      refine ⟨a.toNatClampNeg, by omega, rfl, by omega, ?_, ?_, ?_⟩
      · rw [if_pos]
        rw [Int32.lt_iff_toInt_lt]
        omega
      · rw [if_neg h1]
        decide
      · rintro (q | q)
        · exact h0 q
        · omega
theorem op_holds {t : Nat} {I : am_mI} {J : am_mJ} {A : am_mI} {B : am_mJ} (h : am_Iv t I J A B) (a : Int32) : DX8_holds A a = some (DX7_holds I a) := by
  unfold DX7_holds DX8_holds
  rcases shelf_in a with ⟨h1, h2⟩ | ⟨s, hs, e1, e2, h1, h2, h3⟩
  · rw [if_pos h1, if_pos h2]
  · have z : ¬ DX7_shelfAt a = 0 := by omega
    rw [if_neg z, if_neg h2, h1]
    simp only [if_pos h3]
    rw [e1]
    obtain ⟨c1, c2, -, -, c5, c6, -⟩ := h.sh s hs
    unfold DX3_told DX3_holdsRow DX3_stuffHeld DX3_holdsStuff
    rw [c1, c2]
    rcases c6 with q | q | q
    · rw [q]; rfl
    · rw [q]; rfl
    · rw [c5 q, q]; rfl
theorem shelf_ix {a i : Int32} {s : Nat} (hs : s < 8) (ea : a.toInt = (s : Int)) (h0 : 0 ≤ i.toInt) (h1 : i.toInt < 160) : ¬ ((160 : Int32) * a + i < 0 ∨ 1280 ≤ ((160 : Int32) * a + i).toNatClampNeg) ∧ ((160 : Int32) * a + i).toNatClampNeg = 160 * s + i.toNatClampNeg := by
  have q0 : (0 : Int32).toInt = 0 := rfl
  have v : (160 : Int32).toInt = 160 := rfl
  have m : ((160 : Int32) * a).toInt = 160 * (s : Int) := by
    rw [Int32.toInt_mul, v, ea]
    exact Int.bmod_eq_of_le (by omega) (by omega)
  have w : ((160 : Int32) * a + i).toInt = 160 * (s : Int) + i.toInt := by
    rw [Int32.toInt_add, m]
    exact Int.bmod_eq_of_le (by omega) (by omega)
  have e : ((160 : Int32) * a + i).toNatClampNeg = ((160 : Int32) * a + i).toInt.toNat := rfl
  have e2 : i.toNatClampNeg = i.toInt.toNat := rfl
  rw [Int32.lt_iff_toInt_lt]
  omega
theorem op_element {t : Nat} {I : am_mI} {J : am_mJ} {A : am_mI} {B : am_mJ} (h : am_Iv t I J A B) (a i : Int32) : ∃ r : Int64, DX7_element I J a i = some r ∧ DX8_element A B a i = some r := by
  unfold DX7_element DX8_element
  rcases shelf_in a with ⟨h1, h2⟩ | ⟨s, hs, e1, e2, h1, h2, h3⟩
  · rw [if_pos h1, if_pos h2]
    exact ⟨_, rfl, rfl⟩
  · have z : ¬ DX7_shelfAt a = 0 := by omega
    rw [if_neg z, if_neg h2, h1]
    simp only [if_pos h3]
    rw [e1]
    obtain ⟨c1, c2, c3, c4, c5, c6, c7, c8, c9, c10⟩ := h.sh s hs
    unfold DX3_elementAt DX3_hasElement
    have q0 : (0 : Int32).toInt = 0 := rfl
    have q160 : (160 : Int32).toInt = 160 := rfl
    by_cases r : ¬ A 11 s = 1
    · rw [if_pos r, c4 r]
      by_cases i0 : i < 0
      · rw [if_pos i0]
        exact ⟨_, rfl, rfl⟩
      · have ile : (0 : Int32) ≤ i := by
          rw [Int32.lt_iff_toInt_lt] at i0
          rw [Int32.le_iff_toInt_le]
          omega
        rw [if_neg i0, if_pos ile, if_pos rfl]
        exact ⟨_, rfl, rfl⟩
    · rw [if_neg r, c3 (Classical.not_not.mp r)]
      by_cases i0 : i < 0
      · rw [if_pos i0, if_pos i0]
        exact ⟨_, rfl, rfl⟩
      · rw [if_neg i0, if_neg i0]
        by_cases i1 : A 13 s ≤ i
        · rw [if_pos i1, if_pos i1]
          exact ⟨_, rfl, rfl⟩
        · rw [if_neg i1, if_neg i1]
          have j0 := i0
          have j1 := i1
          rw [Int32.lt_iff_toInt_lt] at j0
          rw [Int32.le_iff_toInt_le] at j1
          obtain ⟨x1, x2⟩ := shelf_ix (i := i) hs e2 (by omega) (by omega)
          have e9 : i.toNatClampNeg = i.toInt.toNat := rfl
          have k1 : ¬ (160 : Int32) ≤ i := by
            rw [Int32.le_iff_toInt_le]
            omega
          have k2 : ¬ (i < 0 ∨ 160 ≤ i.toNatClampNeg) := by
            rintro (q | q)
            · exact i0 q
            · omega
          rw [if_pos x1, x2, if_neg k1, if_neg (show ¬ (1 : Int32) = 0 by decide), if_pos k2]
          refine ⟨_, rfl, ?_⟩
          rw [← c10 _ (by omega), show 41 + 2 * s + 1 = 42 + 2 * s by omega]
theorem op_show {t : Nat} {I : am_mI} {J : am_mJ} {A : am_mI} {B : am_mJ} (h : am_Iv t I J A B) (a v : Int32) : am_Tw (t + 20000) (DX7_show I J a v) (DX8_show A B a v) := by
  unfold DX7_show DX8_show
  rw [stuff_in (A := A) h.bd.n0 h.nn]
  rcases shelf_in a with ⟨h1, h2⟩ | ⟨s, hs, e1, e2, h1, h2, h3⟩
  · rw [if_pos h1, if_pos h2]
    exact .no1 h
  · have z : ¬ DX7_shelfAt a = 0 := by omega
    rw [if_neg z, if_neg h2, h1]
    simp only [if_pos h3]
    rw [e1]
    obtain ⟨c1, c2, c3, c4, c5, c6, c7, c8, c9, c10⟩ := h.sh s hs
    by_cases v0 : v = -1
    · rw [if_pos v0, if_pos v0]
      simp only [if_neg (not_not_intro v0)]
      unfold DX3_takeNothing
      simp only [Option.bind_some]
      refine .mk1 (h.shelf hs (fun k hk => ?_) (fun _ _ => rfl) (fun k k1 _ _ k4 => ?_) (fun u hu => ⟨?_, rfl, rfl, ?_⟩) (fun _ _ _ _ _ => rfl) ?_ (fun q => absurd (show (0 : Int32) = 2 by rw [← q, am_upI_ne (by decide), am_upI_yes]) (by decide)))
      · rw [am_upI_ne hk, am_upI_ne hk]
      · rw [am_upI_ne k4, am_upI_ne k1]
      · rw [am_upI_ne (by decide), am_upI_no hu]
      · rw [am_upI_no hu]
        rfl
      · have a11 : am_upI (am_upI A 11 s 0) 14 s v 11 s = 0 := by rw [am_upI_ne (by decide), am_upI_yes]
        unfold am_Sh
        rw [a11]
        refine ⟨by rw [am_upI_no (by decide), am_upI_yes], ?_, fun q => absurd q (by decide), fun _ => by rw [am_upI_yes], fun q => absurd q (by decide), Or.inl rfl, c7, c8, fun q => absurd q (by decide), c10⟩
        rw [am_upI_no (by decide), am_upI_no (by decide)]
        exact c2
    · rw [if_neg v0, if_neg v0]
      by_cases st : ¬ DX8_isStuff A v = 0
      · rw [if_pos st, if_pos st]
        simp only [if_pos v0]
        have hr := stuff_rg st
        have hn := h.nn
        unfold DX3_takeStuff
        simp only [Option.bind_some]
        refine .mk1 (h.shelf hs (fun k hk => ?_) (fun _ _ => rfl) (fun k k1 _ _ k4 => ?_) (fun u hu => ⟨?_, rfl, rfl, ?_⟩) (fun _ _ _ _ _ => rfl) ?_ (fun _ => by rw [am_upI_yes]; exact hr.2))
        · rw [am_upI_ne hk, am_upI_ne hk, am_upI_ne hk]
        · rw [am_upI_ne k4, am_upI_ne k1]
        · rw [am_upI_ne (by decide), am_upI_no hu]
        · rw [am_upI_no hu]
          rfl
        · have a11 : am_upI (am_upI A 11 s 2) 14 s v 11 s = 2 := by rw [am_upI_ne (by decide), am_upI_yes]
          have a14 : am_upI (am_upI A 11 s 2) 14 s v 14 s = v := by rw [am_upI_yes]
          unfold am_Sh
          rw [a11, a14]
          refine ⟨by rw [am_upI_no (by decide), am_upI_no (by decide), am_upI_yes], by rw [am_upI_no (by decide), am_upI_no (by decide), am_upI_no (by decide)]; exact c2, fun q => absurd q (by decide), fun _ => by rw [am_upI_no (by decide), am_upI_yes], fun _ => by rw [am_upI_yes], Or.inr (Or.inr rfl), c7, c8, fun _ => ⟨hr.1, by omega⟩, c10⟩
      · rw [if_neg st, if_neg st]
        exact .no1 h
