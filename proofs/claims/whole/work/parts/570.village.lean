/-! SENTENCES: village; a text -/
theorem am_Iv.gen {t : Nat} {I : am_mI} {J : am_mJ} {A : am_mI} {B : am_mJ} (h : am_Iv t I J A B) {I1 A1 : am_mI} (hr : ∀ k, (3 ≤ k ∧ k < 12) ∨ (22 ≤ k ∧ k < 32) ∨ 38 ≤ k → I1 k = I k) (h2 : ∀ q, q = 3 ∨ q = 10 ∨ q = 11 ∨ q = 12 ∨ q = 13 ∨ q = 14 → I1 2 q = I 2 q) (h04 : I1 0 4 = I 0 4) (hf : I1 0 6 = A1 0 6) (hA : ∀ k, k ≠ 0 → k ≠ 18 → k ≠ 19 → A1 k = A k) (hA0 : ∀ q, q ≤ 5 ∨ q = 37 ∨ q = 38 → A1 0 q = A 0 q) (ho : am_Ot I1 A1) : am_Iv t I1 J A1 B := by
  have a : ∀ k, k ≠ 0 → k ≠ 18 → k ≠ 19 → A1 k = A k := hA
  refine ⟨?_, ?_, hf, ?_, ?_, ?_, ?_, ?_, (a 17 (by decide) (by decide) (by decide)).trans h.wd, ?_, ho⟩
  · refine ⟨((hr 3 (by decide)).trans h.bd.r0).trans (a 2 (by decide) (by decide) (by decide)).symm, ((hr 4 (by decide)).trans h.bd.r1).trans (a 3 (by decide) (by decide) (by decide)).symm, ((hr 5 (by decide)).trans h.bd.r2).trans (a 4 (by decide) (by decide) (by decide)).symm, ((hr 6 (by decide)).trans h.bd.r3).trans (a 5 (by decide) (by decide) (by decide)).symm, ((hr 7 (by decide)).trans h.bd.r4).trans (a 6 (by decide) (by decide) (by decide)).symm, ((hr 8 (by decide)).trans h.bd.r5).trans (a 7 (by decide) (by decide) (by decide)).symm, ((hr 9 (by decide)).trans h.bd.r6).trans (a 8 (by decide) (by decide) (by decide)).symm, ((hr 10 (by decide)).trans h.bd.r7).trans (a 9 (by decide) (by decide) (by decide)).symm, ((hr 11 (by decide)).trans h.bd.r8).trans (a 10 (by decide) (by decide) (by decide)).symm, ?_⟩
    have := h.bd.2.2.2.2.2.2.2.2.2
    unfold am_mn at this ⊢
    rw [h2 3 (by decide), h2 10 (by decide), h2 11 (by decide), h2 12 (by decide), h2 13 (by decide), h2 14 (by decide), hA0 0 (by decide), hA0 1 (by decide), hA0 2 (by decide), hA0 3 (by decide), hA0 4 (by decide), hA0 5 (by decide)]
    exact this
  · have := h.rf
    unfold am_Rf at this ⊢
    rw [hr 40 (by decide), a 1 (by decide) (by decide) (by decide)]
    exact this
  · intro s hs
    have := h.sh s hs
    unfold am_Sh at this ⊢
    rw [hr (41 + 2 * s) (by omega), a 11 (by decide) (by decide) (by decide), a 12 (by decide) (by decide) (by decide), a 13 (by decide) (by decide) (by decide), a 14 (by decide) (by decide) (by decide)]
    exact this
  · have := h.im
    unfold am_Im at this ⊢
    rw [h04, hA0 38 (by decide), a 20 (by decide) (by decide) (by decide), hr 22 (by decide), hr 23 (by decide), hr 24 (by decide), hr 25 (by decide), hr 26 (by decide), hr 27 (by decide), hr 28 (by decide), hr 29 (by decide), hr 30 (by decide), hr 31 (by decide)]
    exact this
  · have := h.ac
    unfold am_Ac at this ⊢
    rw [hr 38 (by decide), hr 39 (by decide), hA0 37 (by decide), a 25 (by decide) (by decide) (by decide)]
    exact this
  · refine h.rg.cong (fun q i hq hi => ?_) (fun q hq => hA0 q (by omega))
    unfold am_mr
    rw [a (q + 2) (by omega) (by omega) (by omega)]
  · intro f
    rw [hA0 38 (by decide)] at f
    have z : am_kr A1 = am_kr A := by
      funext q i
      unfold am_kr
      rw [a 20 (by decide) (by decide) (by decide)]
    have z2 : am_kn A1 = am_kn A := by
      funext q
      unfold am_kn
      rw [a 20 (by decide) (by decide) (by decide)]
    rw [z, z2]
    exact h.kg f
  · have := h.st
    unfold am_St at this ⊢
    rw [hA0 0 (by decide), a 11 (by decide) (by decide) (by decide), a 14 (by decide) (by decide) (by decide)]
    exact this
/-- x takes the letters -/
theorem letters_sim {t : Nat} {I : am_mI} {J : am_mJ} {A : am_mI} {B : am_mJ} (h : am_Iv t I J A B) {a : Int32} {s n : Nat} (hs : s < 8) (ea : a.toInt = (s : Int)) (hr : A 11 s = 1) (hn : (A 13 s).toInt = (n : Int)) (n160 : n ≤ 160) : ∀ (k m i : Nat) (x : Int32) (X : am_mI), i + k = n → x.toInt = (i : Int) → k < m → (X 32 1).toInt = (n : Int) → X (41 + 2 * s) = I (41 + 2 * s) → (∀ j, j < i → X 33 j = (B 15 (160 * s + j)).toInt32) →
    ∃ X' : am_mI, LX5_takeLetters m X J (41 + 2 * s) x = some (0, X', J) ∧ (∀ k, k ≠ 33 → X' k = X k) ∧ (∀ j, j < n → X' 33 j = (B 15 (160 * s + j)).toInt32) := by
  intro k
  induction k with
  | zero =>
    intro m i x X hi ex hm h1 h2 h3
    obtain ⟨m, rfl⟩ : ∃ j, m = j + 1 := ⟨m - 1, by omega⟩
    refine ⟨X, ?_, fun _ _ => rfl, fun j hj => h3 j (by omega)⟩
    rw [LX5_takeLetters_s, if_pos (show X 32 1 ≤ x by rw [Int32.le_iff_toInt_le]; omega)]
  | succ k ih =>
    intro m i x X hi ex hm h1 h2 h3
    obtain ⟨m, rfl⟩ : ∃ j, m = j + 1 := ⟨m - 1, by omega⟩
    obtain ⟨v, v1, v2⟩ := toldAs h (a := a) (i := x) hs ea hr (by omega) (by omega)
    have ev : v = (B 15 (160 * s + i)).toInt32 := by
      obtain ⟨g, e⟩ := shelf_ix (i := x) hs ea (by omega) (by omega)
      unfold DX8_intAt at v2
      rw [if_pos g, e, nat_of ex] at v2
      exact (Option.some.inj v2).symm
    have g : ¬ (x < 0 ∨ 160 ≤ x.toNatClampNeg) := am_in (n := 160) (by rw [Int32.lt_iff_toInt_lt]; have v0 : (0 : Int32).toInt = 0 := rfl; omega) (by omega)
    obtain ⟨X', r1, r2, r3⟩ := ih m (i + 1) (x + 1) (am_upI X 33 i v) (by omega) (by rw [i32_succ (n := 1000) (by omega) (by omega) (by omega)]; omega) (by omega) (by rw [am_upI_ne (by decide)]; exact h1) (by rw [am_upI_ne (by omega)]; exact h2) (fun j hj => by
      by_cases e : j = i
      · rw [e, am_upI_yes, ev]
      · rw [am_upI_no e]
        exact h3 j (by omega))
    refine ⟨X', ?_, fun k hk => (r2 k hk).trans (am_upI_ne hk), r3⟩
    rw [LX5_takeLetters_s, if_neg (show ¬ X 32 1 ≤ x by rw [Int32.le_iff_toInt_le]; omega), (told_off h2).trans v1, Option.bind_some, if_pos g, nat_of ex]
    exact r1
/-- m puts the board back -/
def am_back (A2 : am_mI) (B : am_mJ) : Option (Int32 × am_mI × am_mJ) := (DX8_whole A2 B 19 1).bind fun q12 => (DX8_no (am_upI q12.2.1 0 6 (q12.2.1 0 29)) q12.2.2 (-6)).bind fun q13 => some (q13.1, q13.2.1, q13.2.2)
theorem text_sim {s n : Nat} {Y0 : am_mI} {H : am_mI} {J : am_mJ} {B : am_mJ} {g0 : Nat} (hs : s < 8) (hn : n ≤ 160) : ∀ (k m m2 i p u : Nat) (it nn : Int32) (Z A1 : am_mI), p + k = n → k < m → k < m2 → i ≤ p → it.toInt = (i : Int) → nn = it + 1 → u + 99 * (k + 1) + 1000 ≤ 61440000 → am_Rd s n Y0 H u J B Z A1 p p →
    (∃ (r : Int32) (Z2 A2 : am_mI) (q : Nat), LX5_tell m Z J g0 12 it = some (r, Z2, J) ∧ (DX8_item A1 B).bind (fun q4 => LX8_village m2 q4.2.1 q4.2.2 nn q4.1) = some (r, A2, B) ∧ am_Rd s n Y0 H (u + 99 * (k + 1)) J B Z2 A2 q q) ∨
    (∃ (r : Int32) (Z2 A2 : am_mI), LX5_tell m Z J g0 12 it = some (r, Z2, J) ∧ (DX8_item A1 B).bind (fun q4 => LX8_village m2 q4.2.1 q4.2.2 nn q4.1) = am_back A2 B ∧ am_Fd Y0 H (u + 99 * (k + 1)) J B Z2 A2) := by
  have v160 : (160 : Int32).toInt = 160 := rfl
  intro k
  induction k using Nat.strongRecOn with
  | _ k ih =>
    intro m m2 i p u it nn Z A1 hk hm hm2 hi ei en hu h
    obtain ⟨m, rfl⟩ : ∃ j, m = j + 1 := ⟨m - 1, by omega⟩
    obtain ⟨m2, rfl⟩ : ∃ j, m2 = j + 1 := ⟨m2 - 1, by omega⟩
    rw [LX5_tell_s, if_neg (show ¬ (160 : Int32) < it by rw [Int32.lt_iff_toInt_lt]; omega)]
    have back : ∀ A2 : am_mI, LX8_village (m2 + 1) A2 B nn 0 = am_back A2 B := by
      intro A2
      rw [LX8_village_s, if_pos rfl, if_pos rfl]
      rfl
    rcases item_all (by omega) hs hn h (by omega) with ⟨Z2, A2, p', a1, a2, a3, a4, a5⟩ | ⟨Z2, A2, a1, a2, a3⟩
    · rw [a1, a2, Option.bind_some, Option.bind_some]
      dsimp only
      obtain ⟨h1, h2, h3, h4, h5, h6, h7⟩ := a3
      rw [if_pos h6, LX8_village_s, if_neg (show ¬ (1 : Int32) = 0 by decide)]
      by_cases c : p' < n
      · have lx : Z2 32 2 < Z2 32 1 := by
          rw [(lt_eq h4 h2.1).1]
          exact c
        have lm : ¬ A2 0 27 ≤ A2 0 26 := by
          rw [(lt_eq h3.1 h5).2]
          omega
        obtain ⟨g, e⟩ := mletter (B := B) h3 hs hn h5 c
        have l := letterAs h2 hn h4
        unfold DX5_readSign
        rw [if_pos lx, if_neg lm, if_pos g, e, l, Option.bind_some]
        by_cases d : am_lt B s n p' = 59
        · rw [if_neg (not_not_intro d), if_pos d, Option.bind_some]
          dsimp only
          have f1 : am_upI Z2 32 2 (Z2 32 2 + 1) 32 3 = -1 := (am_upI_no (by decide)).trans h6
          rw [if_pos f1]
          have px : (Z2 32 2 + 1).toInt = ((p' + 1 : Nat) : Int) := by
            rw [i32_succ (n := 10000) (by omega) (by omega) (by omega)]
            omega
          have pm : (A2 0 26 + 1).toInt = ((p' + 1 : Nat) : Int) := by
            clear px
            rw [i32_succ (n := 10000) (by omega) (by omega) (by omega)]
            omega
          have xo : am_Xo Z2 (am_upI Z2 32 2 (Z2 32 2 + 1)) := (am_Xo.me Z2).up
          have nq : am_Nq A2 (am_upI A2 0 26 (A2 0 26 + 1)) := (am_Nq.me A2).up (by decide)
          have rd : am_Rd s n Y0 H (u + 99) J B (am_upI Z2 32 2 (Z2 32 2 + 1)) (am_upI A2 0 26 (A2 0 26 + 1)) (p' + 1) (p' + 1) := ⟨mid_tie h1 xo nq, h2.up (by decide), h3.nq nq, by rw [am_upI_yes]; exact px, by rw [am_upI_yes]; exact pm, f1, h7.mid xo nq⟩
          clear px pm
          have ei2 : (it + 1).toInt = ((i + 1 : Nat) : Int) := by
            rw [i32_succ (n := 10000) (by omega) (by omega) (by omega)]
            omega
          obtain ⟨k', ek⟩ : ∃ k', p' + 1 + k' = n := ⟨n - (p' + 1), by omega⟩
          rcases ih k' (by omega) m m2 (i + 1) (p' + 1) (u + 99) (it + 1) (nn + 1) _ _ ek (by omega) (by omega) (by omega) ei2 (by rw [en]) (by omega) rd with ⟨r, Z3, A3, q, b1, b2, b3⟩ | ⟨r, Z3, A3, b1, b2, b3⟩
          · exact Or.inl ⟨r, Z3, A3, q, b1, b2, b3.1.more (by omega), b3.2⟩
          · exact Or.inr ⟨r, Z3, A3, b1, b2, b3.more (by omega)⟩
        · right
          rw [if_pos d, if_neg d, xfail h6, Option.bind_some, Option.bind_some]
          dsimp only
          have f1 : ¬ am_upI Z2 32 3 (Z2 32 2) 32 3 = -1 := by
            rw [am_upI_yes]
            intro f
            rw [f] at h4
            have : (-1 : Int32).toInt = -1 := rfl
            omega
          unfold DX8_faulty
          rw [if_neg f1, Option.bind_some]
          dsimp only
          have xo : am_Xo Z2 (am_upI Z2 32 3 (Z2 32 2)) := (am_Xo.me Z2).up
          have nq : am_Nq A2 (am_upI A2 0 29 (A2 0 26)) := (am_Nq.me A2).up (by decide)
          refine ⟨it + 1, _, _, rfl, ?_, (mid_tie h1 xo nq).more (by omega), ?_, ?_, h7.mid xo nq⟩
          · obtain ⟨m3, rfl⟩ : ∃ j, m2 = j + 1 := ⟨m2 - 1, by omega⟩
            rw [LX8_village_s, if_pos rfl, if_pos rfl]
            rfl
          · rw [am_upI_yes, am_upI_yes]
            exact Int32.toInt_inj.mp (by omega)
          · rw [am_upI_yes]
            omega
      · left
        have lx : ¬ Z2 32 2 < Z2 32 1 := by
          rw [(lt_eq h4 h2.1).1]
          omega
        have lm : A2 0 27 ≤ A2 0 26 := by
          rw [(lt_eq h3.1 h5).2]
          omega
        rw [if_neg lx, if_pos lm, if_neg (show ¬ (1 : Int32) = 0 by decide)]
        exact ⟨it + 1, Z2, A2, p', rfl, by rw [en], h1.more (by omega), h2, h3, h4, h5, h6, h7⟩
    · right
      rw [a1, a2, Option.bind_some, Option.bind_some]
      dsimp only
      rw [if_neg a3.nf, back]
      exact ⟨it, Z2, A2, rfl, rfl, a3.more (by omega)⟩
theorem vw_lo (Z : am_mI) {k : Nat} (h : 2 ≤ k ∧ k < 12) : am_vw Z k = Z (k + 10) := by
  unfold am_vw
  rw [if_neg (by omega), if_pos h]
theorem vw_hi (Z : am_mI) {k : Nat} (h : 12 ≤ k ∧ k < 22) : am_vw Z k = Z (k - 10) := by
  unfold am_vw
  rw [if_neg (by omega), if_neg (by omega), if_pos h]
theorem vw_far (Z : am_mI) {k : Nat} (h : k = 1 ∨ 22 ≤ k) : am_vw Z k = Z k := by
  unfold am_vw
  rw [if_neg (by omega), if_neg (by omega), if_neg (by omega)]
theorem vw_zero (Z : am_mI) {q : Nat} : am_vw Z 0 q = if q = 6 then -1 else Z 0 q := rfl
/-- x's rows beyond their ends -/
theorem am_Iv.xo {t : Nat} {I : am_mI} {J : am_mJ} {A : am_mI} {B : am_mJ} (h : am_Iv t I J A B) : (∀ i, 8 ≤ i → I 3 i = 0 ∧ I 4 i = 0 ∧ I 5 i = 0) ∧ (∀ i, 24 ≤ i → I 6 i = -1 ∧ I 7 i = -1 ∧ I 8 i = -1 ∧ I 9 i = 0 ∧ I 10 i = 0 ∧ I 11 i = 0) := by
  obtain ⟨o1, o2⟩ := h.ot
  refine ⟨fun i hi => ?_, fun i hi => ?_⟩
  · rw [show I 3 = A 2 from h.bd.r0, show I 4 = A 3 from h.bd.r1, show I 5 = A 4 from h.bd.r2]
    exact ⟨(o1 i hi).1, (o1 i hi).2.1, (o1 i hi).2.2.1⟩
  · rw [show I 6 = A 5 from h.bd.r3, show I 7 = A 6 from h.bd.r4, show I 8 = A 7 from h.bd.r5, show I 9 = A 8 from h.bd.r6, show I 10 = A 9 from h.bd.r7, show I 11 = A 10 from h.bd.r8]
    exact ⟨(o2 i hi).1, (o2 i hi).2.1, (o2 i hi).2.2.1, (o2 i hi).2.2.2.1, (o2 i hi).2.2.2.2.1, (o2 i hi).2.2.2.2.2.1⟩
theorem bl_row {I : am_mI} {o g q n : Nat} (hq : (1 ≤ q ∧ q ≤ 3 ∧ n = 8) ∨ (4 ≤ q ∧ q ≤ 9 ∧ n = 24)) : am_bl I o g (o + q) = fun b => if b < n then I (g + q) b else I (o + q) b := by
  funext b
  unfold am_bl
  rcases hq with ⟨h1, h2, rfl⟩ | ⟨h1, h2, rfl⟩
  · rw [if_neg (by omega), if_pos (by omega), Nat.add_sub_cancel_left]
  · rw [if_neg (by omega), if_neg (by omega), if_pos (by omega), Nat.add_sub_cancel_left]
theorem bl_num {I : am_mI} {o g k : Nat} (hk : k = 3 ∨ k = 10 ∨ k = 11 ∨ k = 12 ∨ k = 13 ∨ k = 14) : am_bl I o g o k = I g k := by
  unfold am_bl
  rw [if_pos rfl, if_pos hk]
/-- the draft is like the board, row for row -/
theorem draft_rows {t : Nat} {I : am_mI} {J : am_mJ} {A : am_mI} {B : am_mJ} (h : am_Iv t I J A B) : ∀ q, 1 ≤ q → q ≤ 9 → am_bl I 12 2 (12 + q) = I (2 + q) := by
  obtain ⟨o1, o2⟩ := h.ot
  obtain ⟨x1, x2⟩ := h.xo
  have lo : ∀ q, 1 ≤ q → q ≤ 3 → (∀ i, 8 ≤ i → I (12 + q) i = I (2 + q) i) → am_bl I 12 2 (12 + q) = I (2 + q) := by
    intro q a b e
    rw [bl_row (n := 8) (Or.inl ⟨a, b, rfl⟩)]
    funext i
    by_cases c : i < 8
    · rw [if_pos c]
    · rw [if_neg c]
      exact e i (by omega)
  have hi : ∀ q, 4 ≤ q → q ≤ 9 → (∀ i, 24 ≤ i → I (12 + q) i = I (2 + q) i) → am_bl I 12 2 (12 + q) = I (2 + q) := by
    intro q a b e
    rw [bl_row (n := 24) (Or.inr ⟨a, b, rfl⟩)]
    funext i
    by_cases c : i < 24
    · rw [if_pos c]
    · rw [if_neg c]
      exact e i (by omega)
  intro q a b
  have e9 : q = 1 ∨ q = 2 ∨ q = 3 ∨ q = 4 ∨ q = 5 ∨ q = 6 ∨ q = 7 ∨ q = 8 ∨ q = 9 := by omega
  rcases e9 with rfl | rfl | rfl | rfl | rfl | rfl | rfl | rfl | rfl
  · exact lo 1 (by decide) (by decide) (fun i hi => (o1 i hi).2.2.2.1.trans (x1 i hi).1.symm)
  · exact lo 2 (by decide) (by decide) (fun i hi => (o1 i hi).2.2.2.2.1.trans (x1 i hi).2.1.symm)
  · exact lo 3 (by decide) (by decide) (fun i hi => (o1 i hi).2.2.2.2.2.trans (x1 i hi).2.2.symm)
  · exact hi 4 (by decide) (by decide) (fun i hi => (o2 i hi).2.2.2.2.2.2.1.trans (x2 i hi).1.symm)
  · exact hi 5 (by decide) (by decide) (fun i hi => (o2 i hi).2.2.2.2.2.2.2.1.trans (x2 i hi).2.1.symm)
  · exact hi 6 (by decide) (by decide) (fun i hi => (o2 i hi).2.2.2.2.2.2.2.2.1.trans (x2 i hi).2.2.1.symm)
  · exact hi 7 (by decide) (by decide) (fun i hi => (o2 i hi).2.2.2.2.2.2.2.2.2.1.trans (x2 i hi).2.2.2.1.symm)
  · exact hi 8 (by decide) (by decide) (fun i hi => (o2 i hi).2.2.2.2.2.2.2.2.2.2.1.trans (x2 i hi).2.2.2.2.1.symm)
  · exact hi 9 (by decide) (by decide) (fun i hi => (o2 i hi).2.2.2.2.2.2.2.2.2.2.2.trans (x2 i hi).2.2.2.2.2.symm)
/-- the reading begins -/
theorem text_start {t : Nat} {I : am_mI} {J : am_mJ} {A : am_mI} {B : am_mJ} (h : am_Iv t I J A B) {a : Int32} {s n : Nat} (hs : s < 8) (ea : a.toInt = (s : Int)) (hr : A 11 s = 1) (hn : (A 13 s).toInt = (n : Int)) (n160 : n ≤ 160) {W : am_mI} (w2 : ∀ k, k ≠ 19 → W k = A k) :
    ∃ Z0 : am_mI, DX5_takeLetters (am_bl I 12 2) J (41 + 2 * s) = some (0, Z0, J) ∧ am_Rd s n (am_vw Z0) (am_upI (am_upI (am_upI (am_upI W 0 25 (160 * a)) 0 26 0) 0 27 (A 13 s)) 0 6 (-1)) t J B Z0 (am_upI (am_upI (am_upI (am_upI W 0 25 (160 * a)) 0 26 0) 0 27 (A 13 s)) 0 6 (-1)) 0 0 ∧ (∀ k, k < 12 ∨ 22 ≤ k → k ≠ 32 → k ≠ 33 → Z0 k = I k) := by
  obtain ⟨c1, c2, c3, -⟩ := h.sh s hs
  have e13 : (am_upI (am_upI (am_bl I 12 2) 32 2 0) 32 3 (-1)) (41 + 2 * s) 3 = A 13 s := by
    rw [am_upI_ne (a := 41 + 2 * s) (by omega), am_upI_ne (a := 41 + 2 * s) (by omega), bl_off (by omega)]
    exact c3 hr
  have v160 : (160 : Int32).toInt = 160 := rfl
  have fU : am_FU = 1000000 := rfl
  obtain ⟨Z0, z1, z2, z3⟩ := letters_sim h (J := J) hs ea hr hn n160 n am_FU 0 0 (am_upI (am_upI (am_upI (am_bl I 12 2) 32 2 0) 32 3 (-1)) 32 1 (A 13 s)) (by omega) (by decide) (by omega) (by rw [am_upI_yes]; exact hn) (by rw [am_upI_ne (a := 41 + 2 * s) (by omega), am_upI_ne (a := 41 + 2 * s) (by omega), am_upI_ne (a := 41 + 2 * s) (by omega), bl_off (by omega)]) (fun j hj => by omega)
  have zb : ∀ k, k ≠ 32 → k ≠ 33 → Z0 k = am_bl I 12 2 k := fun k h2 h3 => (z2 k h3).trans (by rw [am_upI_ne h2, am_upI_ne h2, am_upI_ne h2])
  have zo : ∀ k, k < 12 ∨ 22 ≤ k → k ≠ 32 → k ≠ 33 → Z0 k = I k := fun k h1 h2 h3 => (zb k h2 h3).trans (bl_off (by omega))
  have drow := draft_rows h
  have z321 : Z0 32 1 = A 13 s := (congrFun (z2 32 (by decide)) 1).trans am_upI_yes
  have z322 : Z0 32 2 = 0 := (congrFun (z2 32 (by decide)) 2).trans (by rw [am_upI_no (by decide), am_upI_no (by decide), am_upI_yes])
  have z323 : Z0 32 3 = -1 := (congrFun (z2 32 (by decide)) 3).trans (by rw [am_upI_no (by decide), am_upI_yes])
  have m0 : ∀ q, q ≠ 6 → q ≠ 25 → q ≠ 26 → q ≠ 27 → am_upI (am_upI (am_upI (am_upI W 0 25 (160 * a)) 0 26 0) 0 27 (A 13 s)) 0 6 (-1) 0 q = A 0 q := fun q h1 h2 h3 h4 => by
    rw [am_upI_no h1, am_upI_no h4, am_upI_no h3, am_upI_no h2, w2 0 (by decide)]
  have mk : ∀ k, k ≠ 0 → k ≠ 19 → am_upI (am_upI (am_upI (am_upI W 0 25 (160 * a)) 0 26 0) 0 27 (A 13 s)) 0 6 (-1) k = A k := fun k h1 h2 => by
    rw [am_upI_ne h1, am_upI_ne h1, am_upI_ne h1, am_upI_ne h1, w2 k h2]
  have m6 : am_upI (am_upI (am_upI (am_upI W 0 25 (160 * a)) 0 26 0) 0 27 (A 13 s)) 0 6 (-1) 0 6 = -1 := am_upI_yes
  have m27 : am_upI (am_upI (am_upI (am_upI W 0 25 (160 * a)) 0 26 0) 0 27 (A 13 s)) 0 6 (-1) 0 27 = A 13 s := by rw [am_upI_no (by decide), am_upI_yes]
  have m26 : am_upI (am_upI (am_upI (am_upI W 0 25 (160 * a)) 0 26 0) 0 27 (A 13 s)) 0 6 (-1) 0 26 = 0 := by rw [am_upI_no (by decide), am_upI_no (by decide), am_upI_yes]
  have m25 : am_upI (am_upI (am_upI (am_upI W 0 25 (160 * a)) 0 26 0) 0 27 (A 13 s)) 0 6 (-1) 0 25 = 160 * a := by rw [am_upI_no (by decide), am_upI_no (by decide), am_upI_no (by decide), am_upI_yes]
  refine ⟨Z0, ?_, ⟨?_, ⟨by rw [z321]; exact hn, z3⟩, ⟨by rw [m27]; exact hn, ?_, (mk 17 (by decide) (by decide)).trans h.wd⟩, by rw [z322]; rfl, by rw [m26]; rfl, z323, fun _ _ _ => rfl, fun _ _ _ => rfl⟩, zo⟩
  · unfold DX5_takeLetters DX3_rowSize
    rw [e13, if_neg (show ¬ (160 : Int32) < A 13 s by rw [Int32.lt_iff_toInt_lt]; omega), Option.bind_some]
    exact z1
  · refine h.gen (fun k hk => ?_) (fun q hq => ?_) ?_ ?_ (fun k h0 _ h9 => mk k h0 h9) (fun q hq => m0 q (by omega) (by omega) (by omega) (by omega)) ?_
    · by_cases c : k < 12
      · have d := drow (k - 2) (by omega) (by omega)
        rw [show 12 + (k - 2) = k + 10 by omega, show 2 + (k - 2) = k by omega] at d
        rw [vw_lo Z0 (by omega), zb (k + 10) (by omega) (by omega), d]
      · rw [vw_far Z0 (by omega)]
        exact zo k (by omega) (by omega) (by omega)
    · rw [vw_lo Z0 (by decide), zb 12 (by decide) (by decide)]
      exact bl_num hq
    · rw [vw_zero, if_neg (by decide), zo 0 (by decide) (by decide) (by decide)]
    · rw [vw_zero, if_pos rfl, m6]
    · obtain ⟨o1, o2⟩ := h.ot
      obtain ⟨x1, x2⟩ := h.xo
      have e : ∀ k, 13 ≤ k → k < 22 → am_vw Z0 k = I (k - 10) := fun k h1 h2 => by rw [vw_hi Z0 (by omega), zo (k - 10) (by omega) (by omega) (by omega)]
      refine ⟨fun i hi => ?_, fun i hi => ?_⟩
      · rw [e 13 (by decide) (by decide), e 14 (by decide) (by decide), e 15 (by decide) (by decide), mk 2 (by decide) (by decide), mk 3 (by decide) (by decide), mk 4 (by decide) (by decide)]
        exact ⟨(o1 i hi).1, (o1 i hi).2.1, (o1 i hi).2.2.1, x1 i hi⟩
      · rw [e 16 (by decide) (by decide), e 17 (by decide) (by decide), e 18 (by decide) (by decide), e 19 (by decide) (by decide), e 20 (by decide) (by decide), e 21 (by decide) (by decide), mk 5 (by decide) (by decide), mk 6 (by decide) (by decide), mk 7 (by decide) (by decide), mk 8 (by decide) (by decide), mk 9 (by decide) (by decide), mk 10 (by decide) (by decide)]
        exact ⟨(o2 i hi).1, (o2 i hi).2.1, (o2 i hi).2.2.1, (o2 i hi).2.2.2.1, (o2 i hi).2.2.2.2.1, (o2 i hi).2.2.2.2.2.1, x2 i hi⟩
  · rw [m25]
    have e : ((160 : Int32) * a).toInt = 160 * (s : Int) := by
      rw [Int32.toInt_mul, v160, ea]
      exact Int.bmod_eq_of_le (by omega) (by omega)
    exact e
theorem op_village {t : Nat} {I : am_mI} {J : am_mJ} {A : am_mI} {B : am_mJ} (h : am_Iv t I J A B) (ht : t + 20000 ≤ 61440000) (a : Int32) : am_Tw (t + 20000) (DX7_village I J a) (DX8_village A B a) := by
  have fU : am_FU = 1000000 := rfl
  unfold DX7_village DX8_village DX8_wanted
  rcases shelf_in a with ⟨h1, h2⟩ | ⟨s, hs, e1, e2, h1, h2, h3⟩
  · rw [if_pos h1, if_neg (not_not_intro h2), Option.bind_some, if_neg (by decide)]
    exact .no1 h
  rw [if_neg (by omega), h1, if_pos h2]
  simp only [if_pos h3]
  rw [e1]
  obtain ⟨c1, c2, c3, c4, c5, c6, c7, c8, c9, c10⟩ := h.sh s hs
  have tr : DX3_rowTrouble I (41 + 2 * s) = if A 11 s = 2 then -2 else if A 11 s = 1 then 0 else -3 := by
    unfold DX3_rowTrouble DX3_holdsStuff DX3_holdsRow
    rw [c1]
    rcases c6 with q | q | q <;> rw [q] <;> rfl
  rw [tr]
  rcases c6 with q | q | q
  · rw [q]
    exact .no3 h
  · rw [q]
    simp +decide only [if_true, if_false, not_false_eq_true, not_true_eq_false]
    rw [Option.bind_some, if_pos rfl]
    obtain ⟨W, w1, w2, w3, w4⟩ := wholeAway A B (g := 19) (by decide)
    obtain ⟨n, en⟩ : ∃ n : Nat, (A 13 s).toInt = (n : Int) := ⟨(A 13 s).toInt.toNat, by omega⟩
    obtain ⟨Z0, z1, z2, z3⟩ := text_start h (W := W) hs e2 q en (by omega) w2
    have size : am_upI (am_upI W 0 25 (160 * a)) 0 26 0 13 s = A 13 s := by
      rw [am_upI_ne (by decide), am_upI_ne (by decide), w2 13 (by decide)]
    rw [likeAs I J (by decide), Option.bind_some, w1, Option.bind_some]
    dsimp only
    rw [size, Option.bind_some]
    unfold DX5_tell
    rw [z1, Option.bind_some]
    dsimp only
    have d0 := z2.2.2.2.2.2.2
    -- what stands at the end whatever is read
    have W0 : ∀ k, k ≠ 0 → k ≠ 19 → am_upI (am_upI (am_upI (am_upI W 0 25 (160 * a)) 0 26 0) 0 27 (A 13 s)) 0 6 (-1) k = A k := fun k h1 h2 => by
      rw [am_upI_ne h1, am_upI_ne h1, am_upI_ne h1, am_upI_ne h1, w2 k h2]
    have W19 : am_upI (am_upI (am_upI (am_upI W 0 25 (160 * a)) 0 26 0) 0 27 (A 13 s)) 0 6 (-1) 19 = W 19 := by
      rw [am_upI_ne (by decide), am_upI_ne (by decide), am_upI_ne (by decide), am_upI_ne (by decide)]
    generalize am_upI (am_upI (am_upI (am_upI W 0 25 (160 * a)) 0 26 0) 0 27 (A 13 s)) 0 6 (-1) = A0 at *
    rcases text_sim (g0 := 41 + 2 * s) hs (by omega : n ≤ 160) n am_FU am_FU 0 0 t 0 1 Z0 A0 (by omega) (by omega) (by omega) (by decide) rfl rfl (by omega) z2 with ⟨r, Z2, A2, p, b1, b2, b3⟩ | ⟨r, Z2, A2, b1, b2, b3⟩
    · -- no fault
      rw [b1, Option.bind_some, b2]
      dsimp only
      obtain ⟨t1, t2, t3, t4, t5, t6, t7⟩ := b3
      unfold DX5_faultFound
      rw [if_pos (show am_upI Z2 0 6 (Z2 32 3) 0 6 = -1 by rw [am_upI_yes]; exact t6), t6, likeAs _ _ (by decide), Option.bind_some]
      dsimp only
      have zk : ∀ k, k ≠ 0 → am_upI Z2 0 6 (-1) k = Z2 k := fun k hk => am_upI_ne hk
      have far : ∀ k, 12 ≤ k ∨ k < 2 → am_bl (am_upI Z2 0 6 (-1)) 2 12 k = am_upI Z2 0 6 (-1) k := fun k hk => bl_off (by omega)
      obtain ⟨o1, o2⟩ := t1.ot
      obtain ⟨x1, x2⟩ := t1.xo
      have hi12 : ∀ k, 12 ≤ k → k < 22 → am_vw Z2 k = Z2 (k - 10) := fun k h1 h2 => vw_hi Z2 ⟨h1, h2⟩
      have lo12 : ∀ k, 2 ≤ k → k < 12 → am_vw Z2 k = Z2 (k + 10) := fun k h1 h2 => vw_lo Z2 ⟨h1, h2⟩
      have rows : ∀ k, 3 ≤ k → k < 12 → am_bl (am_upI Z2 0 6 (-1)) 2 12 k = am_vw Z2 k := by
        have lo : ∀ q, 1 ≤ q → q ≤ 3 → (∀ i, 8 ≤ i → am_vw Z2 (12 + q) i = am_vw Z2 (2 + q) i) → am_bl (am_upI Z2 0 6 (-1)) 2 12 (2 + q) = am_vw Z2 (2 + q) := by
          intro q a b e
          rw [bl_row (n := 8) (Or.inl ⟨a, b, rfl⟩)]
          funext i
          rw [zk _ (by omega), zk _ (by omega)]
          by_cases c : i < 8
          · rw [if_pos c, lo12 (2 + q) (by omega) (by omega), show 2 + q + 10 = 12 + q by omega]
          · have f := e i (by omega)
            rw [hi12 (12 + q) (by omega) (by omega), show 12 + q - 10 = 2 + q by omega] at f
            rw [if_neg c, f]
        have hi : ∀ q, 4 ≤ q → q ≤ 9 → (∀ i, 24 ≤ i → am_vw Z2 (12 + q) i = am_vw Z2 (2 + q) i) → am_bl (am_upI Z2 0 6 (-1)) 2 12 (2 + q) = am_vw Z2 (2 + q) := by
          intro q a b e
          rw [bl_row (n := 24) (Or.inr ⟨a, b, rfl⟩)]
          funext i
          rw [zk _ (by omega), zk _ (by omega)]
          by_cases c : i < 24
          · rw [if_pos c, lo12 (2 + q) (by omega) (by omega), show 2 + q + 10 = 12 + q by omega]
          · have f := e i (by omega)
            rw [hi12 (12 + q) (by omega) (by omega), show 12 + q - 10 = 2 + q by omega] at f
            rw [if_neg c, f]
        intro k k1 k2
        have e9 : k = 2 + 1 ∨ k = 2 + 2 ∨ k = 2 + 3 ∨ k = 2 + 4 ∨ k = 2 + 5 ∨ k = 2 + 6 ∨ k = 2 + 7 ∨ k = 2 + 8 ∨ k = 2 + 9 := by omega
        rcases e9 with rfl | rfl | rfl | rfl | rfl | rfl | rfl | rfl | rfl
        · exact lo 1 (by decide) (by decide) (fun i hi => (o1 i hi).2.2.2.1.trans (x1 i hi).1.symm)
        · exact lo 2 (by decide) (by decide) (fun i hi => (o1 i hi).2.2.2.2.1.trans (x1 i hi).2.1.symm)
        · exact lo 3 (by decide) (by decide) (fun i hi => (o1 i hi).2.2.2.2.2.trans (x1 i hi).2.2.symm)
        · exact hi 4 (by decide) (by decide) (fun i hi => (o2 i hi).2.2.2.2.2.2.1.trans (x2 i hi).1.symm)
        · exact hi 5 (by decide) (by decide) (fun i hi => (o2 i hi).2.2.2.2.2.2.2.1.trans (x2 i hi).2.1.symm)
        · exact hi 6 (by decide) (by decide) (fun i hi => (o2 i hi).2.2.2.2.2.2.2.2.1.trans (x2 i hi).2.2.1.symm)
        · exact hi 7 (by decide) (by decide) (fun i hi => (o2 i hi).2.2.2.2.2.2.2.2.2.1.trans (x2 i hi).2.2.2.1.symm)
        · exact hi 8 (by decide) (by decide) (fun i hi => (o2 i hi).2.2.2.2.2.2.2.2.2.2.1.trans (x2 i hi).2.2.2.2.1.symm)
        · exact hi 9 (by decide) (by decide) (fun i hi => (o2 i hi).2.2.2.2.2.2.2.2.2.2.2.trans (x2 i hi).2.2.2.2.2.symm)
      refine .mk ((t1.gen (A1 := A2) (fun k hk => ?_) (fun q hq => ?_) ?_ ?_ (fun _ _ _ _ => rfl) (fun _ _ => rfl) ?_).more (by omega))
      · by_cases c : k < 12
        · exact rows k (by omega) c
        · rw [far k (by omega), zk k (by omega), vw_far Z2 (by omega)]
      · rw [bl_num hq, zk 12 (by decide), lo12 2 (by decide) (by decide)]
      · rw [far 0 (by decide), am_upI_no (by decide), vw_zero, if_neg (by decide)]
      · rw [far 0 (by decide), am_upI_yes]
        exact t1.ft
      · have e : ∀ k, 13 ≤ k → k < 22 → am_bl (am_upI Z2 0 6 (-1)) 2 12 k = am_vw Z2 (k - 10) := fun k h1 h2 => by
          rw [far k (by omega), zk k (by omega), lo12 (k - 10) (by omega) (by omega), show k - 10 + 10 = k by omega]
        refine ⟨fun i hi => ?_, fun i hi => ?_⟩
        · rw [e 13 (by decide) (by decide), e 14 (by decide) (by decide), e 15 (by decide) (by decide)]
          exact ⟨(o1 i hi).1, (o1 i hi).2.1, (o1 i hi).2.2.1, x1 i hi⟩
        · rw [e 16 (by decide) (by decide), e 17 (by decide) (by decide), e 18 (by decide) (by decide), e 19 (by decide) (by decide), e 20 (by decide) (by decide), e 21 (by decide) (by decide)]
          exact ⟨(o2 i hi).1, (o2 i hi).2.1, (o2 i hi).2.2.1, (o2 i hi).2.2.2.1, (o2 i hi).2.2.2.2.1, (o2 i hi).2.2.2.2.2.1, x2 i hi⟩
    · -- a fault
      rw [b1, Option.bind_some, b2]
      dsimp only
      have nf := b3.nf
      obtain ⟨t1, t2, t3, t4⟩ := b3
      obtain ⟨V, v1, v2, v3, v4, v5⟩ := wholeBack A2 B (g := 19) (by decide)
      unfold DX5_faultFound am_back
      rw [if_neg (show ¬ am_upI Z2 0 6 (Z2 32 3) 0 6 = -1 by rw [am_upI_yes]; exact nf), v1, Option.bind_some]
      dsimp only
      have e29 : V 0 29 = Z2 32 3 := (v5 29 (by decide)).trans t2.symm
      rw [e29]
      have k19 : ∀ i, A2 19 i = W 19 i := fun i => by rw [t4.2 19 (by decide) (by decide), W19]
      have zx : ∀ k, k < 2 ∨ 12 ≤ k → k ≠ 32 → am_vw Z2 k = am_vw Z0 k := t4.1
      have zI : ∀ k, 2 ≤ k → k < 12 → Z2 k = I k := fun k h1 h2 => by
        have := zx (k + 10) (by omega) (by omega)
        rw [vw_hi Z2 (by omega), vw_hi Z0 (by omega), Nat.add_sub_cancel] at this
        rw [this]
        exact z3 k (by omega) (by omega) (by omega)
      obtain ⟨o1, o2⟩ := t1.ot
      obtain ⟨p1, p2⟩ := h.ot
      have vr : ∀ q, q < 9 → V (2 + q) = A (2 + q) := by
        intro q hq
        funext i
        rw [v3 q hq]
        dsimp only
        by_cases c : i < am_ln q
        · rw [if_pos c, k19, w3 q i hq c]
        · rw [if_neg c]
          have e9 : q = 0 ∨ q = 1 ∨ q = 2 ∨ q = 3 ∨ q = 4 ∨ q = 5 ∨ q = 6 ∨ q = 7 ∨ q = 8 := by omega
          rcases e9 with rfl | rfl | rfl | rfl | rfl | rfl | rfl | rfl | rfl
          · have c' : 8 ≤ i := Nat.le_of_not_lt c
            exact (o1 i c').1.trans (p1 i c').1.symm
          · have c' : 8 ≤ i := Nat.le_of_not_lt c
            exact (o1 i c').2.1.trans (p1 i c').2.1.symm
          · have c' : 8 ≤ i := Nat.le_of_not_lt c
            exact (o1 i c').2.2.1.trans (p1 i c').2.2.1.symm
          · have c' : 24 ≤ i := Nat.le_of_not_lt c
            exact (o2 i c').1.trans (p2 i c').1.symm
          · have c' : 24 ≤ i := Nat.le_of_not_lt c
            exact (o2 i c').2.1.trans (p2 i c').2.1.symm
          · have c' : 24 ≤ i := Nat.le_of_not_lt c
            exact (o2 i c').2.2.1.trans (p2 i c').2.2.1.symm
          · have c' : 24 ≤ i := Nat.le_of_not_lt c
            exact (o2 i c').2.2.2.1.trans (p2 i c').2.2.2.1.symm
          · have c' : 24 ≤ i := Nat.le_of_not_lt c
            exact (o2 i c').2.2.2.2.1.trans (p2 i c').2.2.2.2.1.symm
          · have c' : 24 ≤ i := Nat.le_of_not_lt c
            exact (o2 i c').2.2.2.2.2.1.trans (p2 i c').2.2.2.2.2.1.symm
      have vn : ∀ q, q < 6 → V 0 q = A 0 q := fun q hq => by rw [v4 q hq, k19, w4 q hq]
      have X0 : ∀ k, k ≠ 0 → am_upI Z2 0 6 (Z2 32 3) k = Z2 k := fun k hk => am_upI_ne hk
      have Am : ∀ k, k ≠ 0 → am_upI V 0 6 (Z2 32 3) k = V k := fun k hk => am_upI_ne hk
      have Am0 : ∀ q, q ≠ 6 → am_upI V 0 6 (Z2 32 3) 0 q = V 0 q := fun q hq => am_upI_no hq
      have Arow : ∀ k, 2 ≤ k → k ≤ 10 → am_upI V 0 6 (Z2 32 3) k = A k := fun k h1 h2 => by
        have := vr (k - 2) (by omega)
        rw [show 2 + (k - 2) = k by omega] at this
        rw [Am k (by omega), this]
      have Afar : ∀ k, 11 ≤ k ∨ k = 1 → am_upI V 0 6 (Z2 32 3) k = A2 k := fun k hk => (Am k (by omega)).trans (v2 k hk)
      have fin : am_Iv (t + 20000) (am_upI Z2 0 6 (Z2 32 3)) J (am_upI V 0 6 (Z2 32 3)) B := by
        have far : ∀ k, k = 1 ∨ 22 ≤ k → am_upI Z2 0 6 (Z2 32 3) k = am_vw Z2 k := fun k hk => (X0 k (by omega)).trans (vw_far Z2 hk).symm
        refine ⟨?_, ?_, ?_, ?_, ?_, ?_, ?_, ?_, (Afar 17 (by decide)).trans t1.wd, ?_, ?_⟩
        · have rw1 : ∀ k, 2 ≤ k → k < 12 → am_upI Z2 0 6 (Z2 32 3) k = I k := fun k h1 h2 => (X0 k (by omega)).trans (zI k h1 h2)
          refine ⟨((rw1 3 (by decide) (by decide)).trans h.bd.r0).trans (Arow 2 (by decide) (by decide)).symm, ((rw1 4 (by decide) (by decide)).trans h.bd.r1).trans (Arow 3 (by decide) (by decide)).symm, ((rw1 5 (by decide) (by decide)).trans h.bd.r2).trans (Arow 4 (by decide) (by decide)).symm, ((rw1 6 (by decide) (by decide)).trans h.bd.r3).trans (Arow 5 (by decide) (by decide)).symm, ((rw1 7 (by decide) (by decide)).trans h.bd.r4).trans (Arow 6 (by decide) (by decide)).symm, ((rw1 8 (by decide) (by decide)).trans h.bd.r5).trans (Arow 7 (by decide) (by decide)).symm, ((rw1 9 (by decide) (by decide)).trans h.bd.r6).trans (Arow 8 (by decide) (by decide)).symm, ((rw1 10 (by decide) (by decide)).trans h.bd.r7).trans (Arow 9 (by decide) (by decide)).symm, ((rw1 11 (by decide) (by decide)).trans h.bd.r8).trans (Arow 10 (by decide) (by decide)).symm, ?_⟩
          have := h.bd.2.2.2.2.2.2.2.2.2
          unfold am_mn at this ⊢
          rw [rw1 2 (by decide) (by decide), Am0 0 (by decide), Am0 1 (by decide), Am0 2 (by decide), Am0 3 (by decide), Am0 4 (by decide), Am0 5 (by decide), vn 0 (by decide), vn 1 (by decide), vn 2 (by decide), vn 3 (by decide), vn 4 (by decide), vn 5 (by decide)]
          exact this
        · have := t1.rf
          unfold am_Rf at this ⊢
          rw [far 40 (by decide), Afar 1 (by decide)]
          exact this
        · rw [am_upI_yes, am_upI_yes]
        · intro u hu
          have := t1.sh u hu
          unfold am_Sh at this ⊢
          rw [far (41 + 2 * u) (by omega), Afar 11 (by decide), Afar 12 (by decide), Afar 13 (by decide), Afar 14 (by decide)]
          exact this
        · have := t1.im
          unfold am_Im at this ⊢
          rw [show am_upI Z2 0 6 (Z2 32 3) 0 4 = am_vw Z2 0 4 from (am_upI_no (by decide)).trans rfl, Am0 38 (by decide), v5 38 (by decide), Afar 20 (by decide), far 22 (by decide), far 23 (by decide), far 24 (by decide), far 25 (by decide), far 26 (by decide), far 27 (by decide), far 28 (by decide), far 29 (by decide), far 30 (by decide), far 31 (by decide)]
          exact this
        · have := t1.ac
          unfold am_Ac at this ⊢
          rw [far 38 (by decide), far 39 (by decide), Am0 37 (by decide), v5 37 (by decide), Afar 25 (by decide)]
          exact this
        · refine (h.rg.more (by omega)).cong (fun q i hq hi => ?_) (fun q hq => (Am0 q (by omega)).trans (vn q (by omega)))
          unfold am_mr
          rw [Arow (q + 2) (by omega) (by omega)]
        · intro f
          rw [Am0 38 (by decide), v5 38 (by decide)] at f
          have z : am_kr (am_upI V 0 6 (Z2 32 3)) = am_kr A2 := by
            funext q i
            unfold am_kr
            rw [Afar 20 (by decide)]
          have z2 : am_kn (am_upI V 0 6 (Z2 32 3)) = am_kn A2 := by
            funext q
            unfold am_kn
            rw [Afar 20 (by decide)]
          rw [z, z2]
          exact (t1.kg f).more (by omega)
        · have := h.st
          unfold am_St at this ⊢
          rw [Am0 0 (by decide), vn 0 (by decide), Afar 11 (by decide), Afar 14 (by decide), t4.2 11 (by decide) (by decide), t4.2 14 (by decide) (by decide), W0 11 (by decide) (by decide), W0 14 (by decide) (by decide)]
          exact this
        · have e : ∀ k, 13 ≤ k → k < 22 → am_upI Z2 0 6 (Z2 32 3) k = am_vw Z2 (k - 10) := fun k h1 h2 => by
            rw [X0 k (by omega), vw_lo Z2 (by omega), show k - 10 + 10 = k by omega]
          obtain ⟨x1, x2⟩ := t1.xo
          refine ⟨fun i hi => ?_, fun i hi => ?_⟩
          · rw [e 13 (by decide) (by decide), e 14 (by decide) (by decide), e 15 (by decide) (by decide), Arow 2 (by decide) (by decide), Arow 3 (by decide) (by decide), Arow 4 (by decide) (by decide)]
            exact ⟨(p1 i hi).1, (p1 i hi).2.1, (p1 i hi).2.2.1, x1 i hi⟩
          · rw [e 16 (by decide) (by decide), e 17 (by decide) (by decide), e 18 (by decide) (by decide), e 19 (by decide) (by decide), e 20 (by decide) (by decide), e 21 (by decide) (by decide), Arow 5 (by decide) (by decide), Arow 6 (by decide) (by decide), Arow 7 (by decide) (by decide), Arow 8 (by decide) (by decide), Arow 9 (by decide) (by decide), Arow 10 (by decide) (by decide)]
            exact ⟨(p2 i hi).1, (p2 i hi).2.1, (p2 i hi).2.2.1, (p2 i hi).2.2.2.1, (p2 i hi).2.2.2.2.1, (p2 i hi).2.2.2.2.2.1, x2 i hi⟩
      rw [refuse6, mno6]
      exact .mk fin.no6
  · rw [q]
    exact .no2 h
