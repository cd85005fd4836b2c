/-! SENTENCES: village; the whole of an item, of a text -/
theorem mx_le {a : Nat → Nat} {c : Nat} (h : ∀ w, w < 7 → a w ≤ c) : ∀ (k w l : Nat), w + k = 7 → l ≤ c → am_mx a k w l ≤ c
  | 0, _, _, _, hl => hl
  | k + 1, w, l, e, hl => by
    unfold am_mx
    have := h w (by omega)
    split
    · exact mx_le h k (w + 1) _ (by omega) this
    · exact mx_le h k (w + 1) _ (by omega) hl
theorem lit7 {x : Int32} {v : Nat} (h : x.toInt = (v : Int)) : x = Int32.ofInt (v : Int) := by
  rw [← h, Int32.ofInt_toInt]
/-- the word is told, what must come behind it isn't: x -/
theorem short_cell {Z Zf : am_mI} {J : am_mJ} (r : ∀ lo hi, DX5_readNumber Z J lo hi = some (-1, Zf, J)) (f : ¬ Zf 32 3 = -1) : DX5_readCell Z J 12 = some (0, Zf, J) := by
  unfold DX5_readCell
  rw [r, Option.bind_some]
  dsimp only
  rw [xskip f, Option.bind_some]
  exact if_pos f
theorem short_plan {Z Zf : am_mI} {J : am_mJ} (r : ∀ lo hi, DX5_readNumber Z J lo hi = some (-1, Zf, J)) (f : ¬ Zf 32 3 = -1) : DX5_readPlan Z J 12 = some (0, Zf, J) := by
  unfold DX5_readPlan
  rw [r, Option.bind_some]
  dsimp only
  rw [xskip f, Option.bind_some]
  exact if_pos f
theorem short_lay {Z Zf : am_mI} {J : am_mJ} (r : ∀ lo hi, DX5_readNumber Z J lo hi = some (-1, Zf, J)) (f : ¬ Zf 32 3 = -1) : DX5_readLaying Z J 12 = some (0, Zf, J) := by
  unfold DX5_readLaying
  rw [r, Option.bind_some]
  dsimp only
  rw [if_pos f, xskip f, Option.bind_some]
  exact if_pos f
theorem short_side {Z Zf : am_mI} {J : am_mJ} (r : ∀ lo hi, DX5_readNumber Z J lo hi = some (-1, Zf, J)) (f : ¬ Zf 32 3 = -1) : DX5_readSide Z J 12 = some (0, Zf, J) := by
  unfold DX5_readSide
  rw [r, Option.bind_some]
  exact if_pos f
theorem short_hours {Z Zf : am_mI} {J : am_mJ} (r : ∀ lo hi, DX5_readNumber Z J lo hi = some (-1, Zf, J)) (f : ¬ Zf 32 3 = -1) : DX5_readHours Z J 12 = some (0, Zf, J) := by
  unfold DX5_readHours
  rw [r, Option.bind_some]
  exact if_pos f
theorem short_stuff {Z Zf : am_mI} {J : am_mJ} {a : Int32} (room : ¬ DX1_hasRoom Z 12 = 0) (r : ∀ lo hi, DX5_readNumber Z J lo hi = some (-1, Zf, J)) (f : ¬ Zf 32 3 = -1) : DX5_readStuff Z J 12 a = some (0, Zf, J) := by
  unfold DX5_readStuff
  rw [if_pos room, r, Option.bind_some]
  dsimp only
  rw [xskip f, Option.bind_some]
  dsimp only
  rw [xskip f, Option.bind_some]
  exact if_pos f
theorem full_stuff {Z : am_mI} {J : am_mJ} {a : Int32} (room : DX1_hasRoom Z 12 = 0) (hf : Z 32 3 = -1) (f : ¬ a = -1) : DX5_readStuff Z J 12 a = some (0, am_upI Z 32 3 a, J) := by
  have g : ¬ am_upI Z 32 3 a 32 3 = -1 := by
    rw [am_upI_yes]
    exact f
  unfold DX5_readStuff
  rw [if_neg (not_not_intro room), xfail hf, Option.bind_some]
  dsimp only
  rw [xskip g, Option.bind_some]
  dsimp only
  rw [xskip g, Option.bind_some]
  dsimp only
  rw [xskip g, Option.bind_some]
  exact if_pos g
/-- m's item behind its first look -/
theorem mitem {B : am_mJ} {A1 : am_mI} {b : Int32} (w : DX8_isWordAt A1 B 0 = some b) (o : b = 0 ∨ ¬ A1 0 0 = 8) : DX8_item A1 B = (DX8_word A1 B).bind fun q2 =>
    if ¬ q2.1 = (-1 : Int32) then
      if ¬ q2.1 = 0 then
        if (4 : Int32) ≤ q2.1 then
          if ¬ q2.1 = (5 : Int32) then
            LX8_item am_FU q2.2.1 q2.2.2 q2.1 ((1 : Int32)) ((0 : Int32))
          else
            LX8_item am_FU q2.2.1 q2.2.2 q2.1 ((0 : Int32)) ((0 : Int32))
        else
          LX8_item am_FU q2.2.1 q2.2.2 q2.1 ((2 : Int32)) ((0 : Int32))
      else
        LX8_item am_FU q2.2.1 q2.2.2 q2.1 ((3 : Int32)) ((0 : Int32))
    else
      some ((0 : Int32), q2.2.1, q2.2.2) := by
  unfold DX8_item
  rw [w, Option.bind_some]
  rcases o with o | o
  · rw [if_pos o]
  · by_cases c : b = 0
    · rw [if_pos c]
    · rw [if_neg c, if_pos o]
theorem item_all {s n : Nat} {Y0 : am_mI} {H : am_mI} {u : Nat} {J : am_mJ} {B : am_mJ} {Z A1 : am_mI} {p : Nat} (hu : u + 1000 ≤ 61440000) (hs : s < 8) (hn : n ≤ 160) (h : am_Rd s n Y0 H u J B Z A1 p p) (hp : p ≤ 200) : am_IR s n Y0 H u J B p (DX5_readItem Z J 12) (DX8_item A1 B) := by
  have fU : am_FU = 1000000 := rfl
  obtain ⟨h1, h2, h3, h4, h5, h6, h7⟩ := h
  have ez : Z 32 2 = A1 0 26 := Int32.toInt_inj.mp (by omega)
  have v0 : (0 : Int32).toInt = 0 := rfl
  have wA := wordAt (B := B) h3 hs hn h5 (by omega)
  have wA0 : am_mc (am_lt B s n) 5 p 0 = am_aa B s n p 0 := rfl
  have am : am_wo 0 = 0 := rfl
  by_cases no : ∀ w, w < 7 → am_aa B s n p w ≠ am_wn w
  · -- no word
    right
    obtain ⟨g, g1, g2⟩ := xword_none (J := J) h2 hn h4 (by omega) 7 am_FU 0 0 0 0 (by decide) rfl rfl (by decide) (by decide) (fun i _ hi => no i hi)
    have nob : ∀ i, 0 ≤ i → i < 7 → am_mc (am_lt B s n) (am_wn i + am_wb i) p (am_wo i) ≠ am_wn i + am_wb i := by
      intro i _ hi
      have b := word_blank (B := B) (s := s) (n := n) (p := p) hi
      rw [if_neg (no i hi)] at b
      have le := am_mc.le (am_lt B s n) (am_wn i) p (am_wo i)
      have := no i hi
      rw [b]
      unfold am_aa at this ⊢
      omega
    obtain ⟨g', m1, m2⟩ := mword_none (B := B) h3 hs hn h5 (by omega) 7 am_FU 0 0 0 (A1 0 26) 0 (by decide) rfl (by rw [h5]; rfl) rfl (by decide) nob
    have cg : am_mx (fun i => am_mc (am_lt B s n) (am_wn i + am_wb i) p (am_wo i)) 7 0 0 = am_mx (fun i => am_mc (am_lt B s n) (am_wn i) p (am_wo i)) 7 0 0 := by
      refine mx_cong (fun w hw => ?_) 7 0 0 (by decide)
      have b := word_blank (B := B) (s := s) (n := n) (p := p) hw
      rw [if_neg (no w hw)] at b
      exact b
    have le5 : am_mx (fun i => am_mc (am_lt B s n) (am_wn i) p (am_wo i)) 7 0 0 ≤ 5 := by
      refine mx_le (fun w hw => ?_) 7 0 0 (by decide) (by decide)
      have := am_mc.le (am_lt B s n) (am_wn w) p (am_wo w)
      have t := (word_tab ⟨w, hw⟩).2.2.2.2.2.2.2.2.1
      dsimp only at t ⊢
      omega
    have es := i32_addn h4 g1 (by omega)
    rw [cg] at m1
    have eg : Z 32 2 + g = g' := Int32.toInt_inj.mp (es.trans m1.symm)
    have ne : ¬ g' = -1 := by
      intro f
      rw [f] at m1
      have : (-1 : Int32).toInt = -1 := rfl
      clear es
      omega
    have b0 : am_mc (am_lt B s n) 5 p 0 ≠ 5 := no 0 (by decide)
    rw [if_neg b0] at wA
    refine ⟨am_upI Z 32 3 g', am_upI A1 0 29 g', ?_, ?_, (mid_tie h1 (am_Xo.me Z).up ((am_Nq.me A1).up (by decide))).more (by omega), ?_, ?_, h7.mid (am_Xo.me Z).up ((am_Nq.me A1).up (by decide))⟩
    · unfold DX5_readItem DX5_readWord
      rw [g2, xfail h6, eg, Option.bind_some, Option.bind_some]
      simp +decide only [if_false]
    · rw [mitem wA (Or.inl rfl)]
      unfold DX8_word
      rw [m2, Option.bind_some]
      exact if_neg (fun f => f rfl)
    · rw [am_upI_yes, am_upI_yes]
    · rw [am_upI_yes, m1]
      exact Int.natCast_nonneg _
  · -- the word v
    obtain ⟨v, hv, hit⟩ : ∃ v, v < 7 ∧ am_aa B s n p v = am_wn v := by
      by_cases e : ∃ v, v < 7 ∧ am_aa B s n p v = am_wn v
      · exact e
      · exact absurd (fun w hw f => e ⟨w, hw, f⟩) no
    obtain ⟨-, -, -, t4, -, -, t7, t8, t9, t10, -⟩ := word_tab ⟨v, hv⟩
    dsimp only at t4 t7 t8 t9 t10
    have alone : ∀ w, w < 7 → w ≠ v → _ := fun w hw ne => word_alone (B := B) (s := s) (n := n) (p := p) hv hw hit ne
    obtain ⟨xi, g, x1, x2, x3⟩ := xword_some (J := J) h2 hn h4 (by omega) hv hit v am_FU 0 0 0 (by omega) rfl (by omega) (fun i _ hi => (alone i (by omega) (by omega)).2.1)
    have q1 := i32_addn h4 x2 (by omega)
    obtain ⟨q, eq⟩ : ∃ q, q = Z 32 2 + g := ⟨_, rfl⟩
    rw [← eq] at q1 x3
    clear eq
    -- letters of the word are in the row
    have inrow : p + am_wn v ≤ n := by
      have a := am_mc.at (am_lt B s n) (am_wn v) p (am_wo v) (am_wn v - 1) (by unfold am_aa at hit; omega)
      by_cases c : p + (am_wn v - 1) < n
      · omega
      · exfalso
        unfold am_lt at a
        rw [if_neg c] at a
        have hb := (word_tab ⟨v, hv⟩).2.2.2.2.2.2.2.2.2.2
        dsimp only at hb
        exact hh_tab.1 ⟨am_wo v + (am_wn v - 1), by omega⟩ a.symm
    have hx1 : am_Rx B s n (am_upI Z 32 2 q) := h2.up (by decide)
    have f1 : am_upI Z 32 2 q 32 3 = -1 := (am_upI_no (by decide)).trans h6
    have at1 : am_upI Z 32 2 q 32 2 = q := am_upI_yes
    have xo1 : am_Xo Z (am_upI Z 32 2 q) := (am_Xo.me Z).up
    have tieX : am_Iv u (am_vw (am_upI Z 32 2 q)) J A1 B := mid_tie h1 xo1 (am_Nq.me A1)
    have lv := lit7 x1
    have wb := word_blank (B := B) (s := s) (n := n) (p := p) hv
    rw [if_pos hit] at wb
    have bit : am_mc (am_lt B s n) 5 p 0 = 5 ↔ v = 0 := by
      refine ⟨fun f => ?_, fun f => ?_⟩
      · by_cases c : v = 0
        · exact c
        · exact absurd f (alone 0 (by decide) (Ne.symm c)).2.1
      · subst f
        exact hit
    by_cases full : v = 0 ∧ A1 0 0 = 8
    · -- no room for a stuff
      obtain ⟨e0, e8⟩ := full
      subst e0
      right
      rw [if_pos (bit.mpr rfl)] at wA
      have na : ¬ Z 32 2 = -1 := by
        intro f
        rw [f] at h4
        have : (-1 : Int32).toInt = -1 := rfl
        omega
      refine ⟨am_upI (am_upI Z 32 2 q) 32 3 (Z 32 2), am_upI A1 0 29 (A1 0 26), ?_, ?_, (mid_tie h1 xo1.up ((am_Nq.me A1).up (by decide))).more (by omega), ?_, ?_, h7.mid xo1.up ((am_Nq.me A1).up (by decide))⟩
      · unfold DX5_readItem DX5_readWord
        rw [x3, Option.bind_some, lv]
        simp +decide only [if_true]
        rw [full_stuff ((xroom tieX).1 e8) f1 na, Option.bind_some]
      · unfold DX8_item DX8_faulty
        rw [wA, Option.bind_some, if_neg (by decide), if_neg (not_not_intro e8), Option.bind_some]
        exact if_pos (Or.inl rfl)
      · rw [am_upI_yes, am_upI_yes, ez]
      · rw [am_upI_yes]
        omega
    · have b : ∃ b : Int32, DX8_isWordAt A1 B 0 = some b ∧ (b = 0 ∨ ¬ A1 0 0 = 8) := by
        by_cases c : v = 0
        · rw [if_pos (bit.mpr c)] at wA
          exact ⟨1, wA, Or.inr (fun f => full ⟨c, f⟩)⟩
        · rw [if_neg (fun f => c (bit.mp f))] at wA
          exact ⟨0, wA, Or.inl rfl⟩
      obtain ⟨b, b1, b2⟩ := b
      rw [mitem b1 b2]
      by_cases blank : am_wb v = 0 ∨ am_lt B s n (p + am_wn v) = 32
      · -- the word stands wholly
        rw [if_pos blank] at wb
        obtain ⟨yi, y, y1, y2, y3⟩ := mword_some (B := B) h3 hs hn h5 (by omega) hv wb v am_FU 0 0 0 (A1 0 26) 0 (by omega) rfl (by rw [h5]; rfl) rfl (by omega) (fun i _ hi => (alone i (by omega) (by omega)).2.2.2)
        have lm := lit7 y1
        have nq : am_Nq A1 (am_upI A1 0 26 y) := (am_Nq.me A1).up (by decide)
        have rd : am_Rd s n Y0 H u J B (am_upI Z 32 2 q) (am_upI A1 0 26 y) (p + am_wn v) (p + (am_wn v + am_wb v)) := ⟨mid_tie h1 xo1 nq, hx1, h3.nq nq, by rw [at1]; exact q1, by rw [am_upI_yes]; exact y2, f1, h7.mid xo1 nq⟩
        have grow : ∀ (ox om : Option (Int32 × am_mI × am_mJ)), am_IR s n Y0 H u J B (p + am_wn v) ox om → am_IR s n Y0 H u J B p ox om := by
          intro ox om g
          rcases g with ⟨Z2, A2, p', a1, a2, a3, a4, a5⟩ | g
          · exact Or.inl ⟨Z2, A2, p', a1, a2, a3, by omega, a5⟩
          · exact Or.inr g
        unfold DX5_readItem DX5_readWord DX8_word
        rw [x3, Option.bind_some, y3, Option.bind_some, lv, lm]
        have e7 : v = 0 ∨ v = 1 ∨ v = 2 ∨ v = 3 ∨ v = 4 ∨ v = 5 ∨ v = 6 := by omega
        have bl : v ≠ 5 → p + am_wn v < n ∧ am_lt B s n (p + am_wn v) = 32 ∧ am_wb v = 1 := by
          intro n5
          have w1 : am_wb v = 1 := by
            rcases e7 with rfl | rfl | rfl | rfl | rfl | rfl | rfl
            · rfl
            · rfl
            · rfl
            · rfl
            · rfl
            · exact absurd rfl n5
            · rfl
          rcases blank with z | z
          · omega
          · refine ⟨?_, z, w1⟩
            by_cases c : p + am_wn v < n
            · exact c
            · unfold am_lt at z
              rw [if_neg c] at z
              exact absurd z (by decide)
        have rel : ∀ (ox om ox' om' : Option (Int32 × am_mI × am_mJ)), am_IR s n Y0 H u J B (p + am_wn v) ox om → ox' = ox.bind (fun q => some (0, q.2.1, q.2.2)) → om' = om → am_IR s n Y0 H u J B p ox' om' := by
          intro ox om ox' om' g e1 e2
          rw [e1, e2]
          rcases g with ⟨Z2, A2, p', a1, a2, a3, a4, a5⟩ | ⟨Z2, A2, a1, a2, a3⟩
          · rw [a1]
            exact Or.inl ⟨Z2, A2, p', rfl, a2, a3, by omega, a5⟩
          · rw [a1]
            exact Or.inr ⟨Z2, A2, rfl, a2, a3⟩
        by_cases n5 : v = 5
        · subst n5
          obtain ⟨Y, A2, s1, s2, s3⟩ := item_spray hu rd
          left
          refine ⟨am_bb (am_upI Z 32 2 q) Y, A2, p + am_wn 5, ?_, ?_, s3, by omega, by omega⟩
          · simp +decide only [if_true, if_false]
            rw [s1, Option.bind_some]
          · simp +decide only [if_true, if_false]
            exact s2
        · obtain ⟨c1, c2, c3⟩ := bl n5
          rw [c3] at rd
          have rd2 : am_Rd s n Y0 H u J B (am_upI Z 32 2 q) (am_upI A1 0 26 y) (p + am_wn v) (p + am_wn v + 1) := rd
          rcases e7 with rfl | rfl | rfl | rfl | rfl | rfl | rfl
          · have room : ¬ am_upI A1 0 26 y 0 0 = 8 := by
              rw [am_upI_no (by decide)]
              exact fun f => full ⟨rfl, f⟩
            refine rel _ _ _ _ (item_stuff hs hn rd2 c1 c2 room (Z 32 2)) ?_ ?_
            · simp +decide only [if_true, if_false]
            · simp +decide only [if_true, if_false]
              rfl
          · refine rel _ _ _ _ (item_cell hs hn rd2 c1 c2) ?_ ?_
            · simp +decide only [if_true, if_false]
            · simp +decide only [if_true, if_false]
              rfl
          · refine rel _ _ _ _ (item_plan hs hn rd2 c1 c2) ?_ ?_
            · simp +decide only [if_true, if_false]
            · simp +decide only [if_true, if_false]
              rfl
          · refine rel _ _ _ _ (item_lay hs hn rd2 c1 c2) ?_ ?_
            · simp +decide only [if_true, if_false]
            · simp +decide only [if_true, if_false]
              rfl
          · refine rel _ _ _ _ (item_side hs hn rd2 c1 c2) ?_ ?_
            · simp +decide only [if_true, if_false]
            · simp +decide only [if_true, if_false]
              rfl
          · exact absurd rfl n5
          · refine rel _ _ _ _ (item_hours hu hs hn rd2 c1 c2) ?_ ?_
            · simp +decide only [if_true, if_false]
            · simp +decide only [if_true, if_false]
              rfl
      · -- no blank behind it
        right
        rw [if_neg blank] at wb
        have nb : ¬ am_lt B s n (p + am_wn v) = 32 := fun f => blank (Or.inr f)
        have w1 : ¬ am_wb v = 0 := fun f => blank (Or.inl f)
        have nob : ∀ i, 0 ≤ i → i < 7 → am_mc (am_lt B s n) (am_wn i + am_wb i) p (am_wo i) ≠ am_wn i + am_wb i := by
          intro i _ hi
          by_cases c : i = v
          · rw [c, wb]
            omega
          · exact (alone i hi c).2.2.2
        obtain ⟨g', m1, m2⟩ := mword_none (B := B) h3 hs hn h5 (by omega) 7 am_FU 0 0 0 (A1 0 26) 0 (by decide) rfl (by rw [h5]; rfl) rfl (by decide) nob
        have mx := mx_one (a := fun i => am_mc (am_lt B s n) (am_wn i + am_wb i) p (am_wo i)) (v := v) (c := am_wn v) wb (by omega) (fun w hw ne => (alone w hw ne).2.2.1) 7 0 0 (by decide) (by omega) (Or.inl (by omega)) hv
        rw [mx] at m1
        have eg : q = g' := Int32.toInt_inj.mp (by omega)
        have rn : ∀ lo hi, DX5_readNumber (am_upI Z 32 2 q) J lo hi = some (-1, am_upI (am_upI Z 32 2 q) 32 3 q, J) := by
          intro lo hi
          have := (xnum (J := J) hx1 hn (by rw [at1]; exact q1) (by omega) f1 lo hi).1 nb
          rw [at1] at this
          exact this
        have nf : ¬ am_upI (am_upI Z 32 2 q) 32 3 q 32 3 = -1 := by
          rw [am_upI_yes]
          intro f
          rw [f] at q1
          have : (-1 : Int32).toInt = -1 := rfl
          omega
        refine ⟨am_upI (am_upI Z 32 2 q) 32 3 q, am_upI A1 0 29 g', ?_, ?_, (mid_tie h1 xo1.up ((am_Nq.me A1).up (by decide))).more (by omega), ?_, ?_, h7.mid xo1.up ((am_Nq.me A1).up (by decide))⟩
        · unfold DX5_readItem DX5_readWord
          rw [x3, Option.bind_some, lv]
          have e7 : v = 0 ∨ v = 1 ∨ v = 2 ∨ v = 3 ∨ v = 4 ∨ v = 5 ∨ v = 6 := by omega
          rcases e7 with rfl | rfl | rfl | rfl | rfl | rfl | rfl
          · simp +decide only [if_true, if_false]
            rw [short_stuff ((xroom tieX).2 (fun f => full ⟨rfl, f⟩)).1 rn nf, Option.bind_some]
          · simp +decide only [if_true, if_false]
            rw [short_cell rn nf, Option.bind_some]
          · simp +decide only [if_true, if_false]
            rw [short_plan rn nf, Option.bind_some]
          · simp +decide only [if_true, if_false]
            rw [short_lay rn nf, Option.bind_some]
          · simp +decide only [if_true, if_false]
            rw [short_side rn nf, Option.bind_some]
          · exact absurd rfl w1
          · simp +decide only [if_true, if_false]
            rw [short_hours rn nf, Option.bind_some]
        · unfold DX8_word
          rw [m2, Option.bind_some]
          exact if_neg (fun f => f rfl)
        · rw [am_upI_yes, am_upI_yes, eg]
        · rw [am_upI_yes]
          omega
