theorem mword_none {B : am_mJ} {s n p : Nat} {A1 : am_mI} (hm : am_Rm s n A1) (hs : s < 8) (hn : n ≤ 160) (hp : (A1 0 26).toInt = (p : Int)) (hp2 : p ≤ 1000) : ∀ (k M w l : Nat) (x1 x2 x3 : Int32), w + k = 7 → x1.toInt = (am_wo w : Int) → x2.toInt = ((p + l : Nat) : Int) → x3.toInt = (w : Int) → 20 * k < M →
    (∀ i, w ≤ i → i < 7 → am_mc (am_lt B s n) (am_wn i + am_wb i) p (am_wo i) ≠ am_wn i + am_wb i) →
    ∃ g : Int32, g.toInt = ((p + am_mx (fun i => am_mc (am_lt B s n) (am_wn i + am_wb i) p (am_wo i)) k w l : Nat) : Int) ∧ LX8_word M 0 A1 B x1 x2 x3 0 0 = some (-1, am_upI A1 0 29 g, B) := by
  intro k
  induction k with
  | zero =>
    intro M w l x1 x2 x3 hw e1 e2 e3 hM no
    obtain ⟨M, rfl⟩ : ∃ i, M = i + 1 := ⟨M - 1, by omega⟩
    have v7 : (7 : Int32).toInt = 7 := rfl
    refine ⟨x2, e2, ?_⟩
    rw [LX8_word_s0, if_pos (show (7 : Int32) ≤ x3 by rw [Int32.le_iff_toInt_le]; omega)]
  | succ k ih =>
    intro M w l x1 x2 x3 hw e1 e2 e3 hM no
    have w7 : w < 7 := by omega
    have v7 : (7 : Int32).toInt = 7 := rfl
    have t9 := (word_tab ⟨w, w7⟩).2.2.2.2.2.2.2.2.1
    have t10 := (word_tab ⟨w, w7⟩).2.2.2.2.2.2.2.2.2.1
    dsimp only at t9 t10
    obtain ⟨N, eN⟩ : ∃ N, M = ((N + (am_wn w + am_wb w) + 1) + (am_wn w + am_wb w) + 1) + 1 := ⟨M - 2 * (am_wn w + am_wb w) - 3, by omega⟩
    obtain ⟨-, i2⟩ := mword_in (B := B) hm hs hn hp2 w7 (x1 := x1) (x3 := x3) e2 (am_wn w + am_wb w) (N + (am_wn w + am_wb w) + 1) 0 (A1 0 26) x1 (by omega) hp e1
    have now := no w (Nat.le_refl w) w7
    rw [Nat.add_zero, Nat.add_zero] at i2
    obtain ⟨y, m3, y1, y2, y3⟩ := i2 now
    rw [Nat.zero_add] at y2
    obtain ⟨m4, em4⟩ : ∃ q, m3 = q + (am_wn w + am_wb w) + 1 := ⟨m3 - (am_wn w + am_wb w) - 1, by omega⟩
    obtain ⟨u, z, u1, u2, u3⟩ := mword_skip (B := B) hm w7 (x2 := y) e3 (am_wn w + am_wb w) m4 0 x1 (by omega) e1
    have le := am_mc.le (am_lt B s n) (am_wn w + am_wb w) p (am_wo w)
    obtain ⟨g, g1, g2⟩ := ih m4 (w + 1) _ u y z (by omega) u1 y2 u2 (by omega) (fun i hi => no i (by omega))
    refine ⟨g, g1, ?_⟩
    rw [eN, LX8_word_s0, if_neg (show ¬ (7 : Int32) ≤ x3 by rw [Int32.le_iff_toInt_le]; omega), y3, em4, u3, g2]
theorem mword_some {B : am_mJ} {s n p v : Nat} {A1 : am_mI} (hm : am_Rm s n A1) (hs : s < 8) (hn : n ≤ 160) (hp : (A1 0 26).toInt = (p : Int)) (hp2 : p ≤ 1000) (hv : v < 7) (hit : am_mc (am_lt B s n) (am_wn v + am_wb v) p (am_wo v) = am_wn v + am_wb v) : ∀ (k M w l : Nat) (x1 x2 x3 : Int32), w + k = v → x1.toInt = (am_wo w : Int) → x2.toInt = ((p + l : Nat) : Int) → x3.toInt = (w : Int) → 20 * k + 20 < M →
    (∀ i, w ≤ i → i < v → am_mc (am_lt B s n) (am_wn i + am_wb i) p (am_wo i) ≠ am_wn i + am_wb i) →
    ∃ xi y : Int32, xi.toInt = (v : Int) ∧ y.toInt = ((p + (am_wn v + am_wb v) : Nat) : Int) ∧ LX8_word M 0 A1 B x1 x2 x3 0 0 = some (xi, am_upI A1 0 26 y, B) := by
  intro k
  induction k with
  | zero =>
    intro M w l x1 x2 x3 hw e1 e2 e3 hM no
    have ew : w = v := by omega
    subst ew
    have v7 : (7 : Int32).toInt = 7 := rfl
    have t9 := (word_tab ⟨w, hv⟩).2.2.2.2.2.2.2.2.1
    have t10 := (word_tab ⟨w, hv⟩).2.2.2.2.2.2.2.2.2.1
    dsimp only at t9 t10
    obtain ⟨N, eN⟩ : ∃ N, M = (N + (am_wn w + am_wb w) + 1) + 1 := ⟨M - (am_wn w + am_wb w) - 2, by omega⟩
    obtain ⟨i1, -⟩ := mword_in (B := B) hm hs hn hp2 hv (x1 := x1) (x3 := x3) e2 (am_wn w + am_wb w) N 0 (A1 0 26) x1 (by omega) hp e1
    rw [Nat.add_zero, Nat.add_zero] at i1
    obtain ⟨y, y1, y2⟩ := i1 hit
    refine ⟨x3, y, e3, y1, ?_⟩
    rw [eN, LX8_word_s0, if_neg (show ¬ (7 : Int32) ≤ x3 by rw [Int32.le_iff_toInt_le]; omega), y2]
  | succ k ih =>
    intro M w l x1 x2 x3 hw e1 e2 e3 hM no
    have w7 : w < 7 := by omega
    have v7 : (7 : Int32).toInt = 7 := rfl
    have t9 := (word_tab ⟨w, w7⟩).2.2.2.2.2.2.2.2.1
    have t10 := (word_tab ⟨w, w7⟩).2.2.2.2.2.2.2.2.2.1
    dsimp only at t9 t10
    obtain ⟨N, eN⟩ : ∃ N, M = ((N + (am_wn w + am_wb w) + 1) + (am_wn w + am_wb w) + 1) + 1 := ⟨M - 2 * (am_wn w + am_wb w) - 3, by omega⟩
    obtain ⟨-, i2⟩ := mword_in (B := B) hm hs hn hp2 w7 (x1 := x1) (x3 := x3) e2 (am_wn w + am_wb w) (N + (am_wn w + am_wb w) + 1) 0 (A1 0 26) x1 (by omega) hp e1
    have now := no w (Nat.le_refl w) (by omega)
    rw [Nat.add_zero, Nat.add_zero] at i2
    obtain ⟨y, m3, y1, y2, y3⟩ := i2 now
    rw [Nat.zero_add] at y2
    obtain ⟨m4, em4⟩ : ∃ q, m3 = q + (am_wn w + am_wb w) + 1 := ⟨m3 - (am_wn w + am_wb w) - 1, by omega⟩
    obtain ⟨u, z, u1, u2, u3⟩ := mword_skip (B := B) hm w7 (x2 := y) e3 (am_wn w + am_wb w) m4 0 x1 (by omega) e1
    obtain ⟨xi, g, g1, g2, g3⟩ := ih m4 (w + 1) _ u y z (by omega) u1 y2 u2 (by omega) (fun i hi => no i (by omega))
    refine ⟨xi, g, g1, g2, ?_⟩
    rw [eN, LX8_word_s0, if_neg (show ¬ (7 : Int32) ≤ x3 by rw [Int32.le_iff_toInt_le]; omega), y3, em4, u3, g3]
theorem mx_one {a : Nat → Nat} {v c : Nat} (hv : a v = c) (hc : 1 ≤ c) (ho : ∀ w, w < 7 → w ≠ v → a w ≤ 1) : ∀ (k w l : Nat), w + k = 7 → l ≤ c → (w ≤ v ∨ l = c) → v < 7 → am_mx a k w l = c
  | 0, w, l, h, hl, hw, h7 => by
    rcases hw with hw | hw
    · omega
    · exact hw
  | k + 1, w, l, h, hl, hw, h7 => by
    unfold am_mx
    by_cases e : w = v
    · rw [e, hv]
      by_cases d : l < c
      · rw [if_pos d]
        exact mx_one hv hc ho k (v + 1) c (by omega) (Nat.le_refl c) (Or.inr rfl) h7
      · rw [if_neg d]
        exact mx_one hv hc ho k (v + 1) l (by omega) hl (Or.inr (by omega)) h7
    · have o := ho w (by omega) e
      by_cases d : l < a w
      · rw [if_pos d]
        exact mx_one hv hc ho k (w + 1) (a w) (by omega) (by omega) (by omega) h7
      · rw [if_neg d]
        exact mx_one hv hc ho k (w + 1) l (by omega) hl (by omega) h7
theorem mx_cong {a b : Nat → Nat} (h : ∀ w, w < 7 → a w = b w) : ∀ (k w l : Nat), w + k = 7 → am_mx a k w l = am_mx b k w l
  | 0, _, _, _ => rfl
  | k + 1, w, l, e => by
    unfold am_mx
    rw [h w (by omega)]
    exact mx_cong h k (w + 1) _ (by omega)
/-- what word stands at p: none; or v, with its blank or without -/
def am_aa (B : am_mJ) (s n p w : Nat) : Nat := am_mc (am_lt B s n) (am_wn w) p (am_wo w)
theorem word_blank {B : am_mJ} {s n p w : Nat} (hw : w < 7) : am_mc (am_lt B s n) (am_wn w + am_wb w) p (am_wo w) = if am_aa B s n p w = am_wn w then (if am_wb w = 0 ∨ am_lt B s n (p + am_wn w) = 32 then am_wn w + am_wb w else am_wn w) else am_aa B s n p w := by
  have t7 := (word_tab ⟨w, hw⟩).2.2.2.2.2.2.1
  have t10 := (word_tab ⟨w, hw⟩).2.2.2.2.2.2.2.2.2.1
  dsimp only at t7 t10
  rw [am_mc.add]
  unfold am_aa
  by_cases c : am_mc (am_lt B s n) (am_wn w) p (am_wo w) = am_wn w
  · rw [if_pos c, if_pos c]
    by_cases b0 : am_wb w = 0
    · rw [if_pos (Or.inl b0), b0]
      rfl
    · have b1 : am_wb w = 1 := by omega
      rw [b1]
      have z : am_mc (am_lt B s n) 1 (p + am_wn w) (am_wo w + am_wn w) = if am_lt B s n (p + am_wn w) = am_hh (am_wo w + am_wn w) then 1 + 0 else 0 := rfl
      rw [z, t7 b1]
      by_cases d : am_lt B s n (p + am_wn w) = 32
      · rw [if_pos d, if_pos (Or.inr d)]
      · rw [if_neg d, if_neg (by intro f; rcases f with f | f; exact absurd f (by decide); exact d f)]
        rfl
  · rw [if_neg c, if_neg c]
theorem word_alone {B : am_mJ} {s n p v w : Nat} (hv : v < 7) (hw : w < 7) (hit : am_aa B s n p v = am_wn v) (ne : w ≠ v) : am_aa B s n p w ≤ 1 ∧ am_aa B s n p w ≠ am_wn w ∧ am_mc (am_lt B s n) (am_wn w + am_wb w) p (am_wo w) ≤ 1 ∧ am_mc (am_lt B s n) (am_wn w + am_wb w) p (am_wo w) ≠ am_wn w + am_wb w := by
  have t3 := (word_tab ⟨v, hv⟩).2.2.2.2.2.2.2.1
  have t3w := (word_tab ⟨w, hw⟩).2.2.2.2.2.2.2.1
  dsimp only at t3 t3w
  have le : am_aa B s n p w ≤ 1 := by
    by_cases c : am_aa B s n p w ≤ 1
    · exact c
    · exact absurd (mt_two (f := am_lt B s n) (p := p) (k := am_wn w) (l := am_wn v) hw hv (by unfold am_aa at c; omega) (by unfold am_aa at hit; omega)) ne
  have b := word_blank (B := B) (s := s) (n := n) (p := p) hw
  rw [if_neg (by omega)] at b
  refine ⟨le, by omega, by omega, by omega⟩
/-! SENTENCES: village; numbers -/
def am_dg (c : Int32) : Int32 := if c < 48 then 0 else if (57 : Int32) < c then 0 else 1
theorem dg_rg {c : Int32} (h : ¬ am_dg c = 0) : 48 ≤ c.toInt ∧ c.toInt ≤ 57 := by
  have v48 : (48 : Int32).toInt = 48 := rfl
  have v57 : (57 : Int32).toInt = 57 := rfl
  unfold am_dg at h
  by_cases a : c < 48
  · rw [if_pos a] at h
    exact absurd rfl h
  · rw [if_neg a] at h
    by_cases b : (57 : Int32) < c
    · rw [if_pos b] at h
      exact absurd rfl h
    · rw [Int32.lt_iff_toInt_lt] at a b
      omega
theorem xdigit {B : am_mJ} {s n : Nat} {Z : am_mI} (hx : am_Rx B s n Z) (hn : n ≤ 160) {a : Int32} {i : Nat} (ea : a.toInt = (i : Int)) : DX5_isDigit Z a = some (am_dg (am_lt B s n i)) := by
  unfold DX5_isDigit am_dg
  rw [letterAs hx hn ea, Option.bind_some]
  by_cases c : am_lt B s n i < 48
  · rw [if_pos c, if_pos c]
  · rw [if_neg c, if_neg c, Option.bind_some]
    by_cases d : (57 : Int32) < am_lt B s n i
    · rw [if_pos d, if_pos d]
    · rw [if_neg d, if_neg d]
theorem mdigit {B : am_mJ} {s n : Nat} {A1 : am_mI} (hm : am_Rm s n A1) (hs : s < 8) (hn : n ≤ 160) {i : Nat} (ea : (A1 0 26).toInt = (i : Int)) : DX8_isDigit A1 B = some (am_dg (am_lt B s n i)) := by
  unfold DX8_isDigit
  by_cases c : i < n
  · obtain ⟨g, e⟩ := mletter (B := B) hm hs hn ea c
    rw [if_neg (show ¬ A1 0 27 ≤ A1 0 26 by rw [(lt_eq hm.1 ea).2]; omega)]
    simp only [if_pos g]
    rw [e]
    unfold am_dg
    by_cases d : am_lt B s n i < 48
    · rw [if_pos d, if_pos d]
    · rw [if_neg d, if_neg d]
      by_cases f : (57 : Int32) < am_lt B s n i
      · rw [if_pos f, if_pos f]
      · rw [if_neg f, if_neg f]
  · rw [if_pos (show A1 0 27 ≤ A1 0 26 by rw [(lt_eq hm.1 ea).2]; omega)]
    unfold am_lt
    rw [if_neg c]
    rfl
/-- the number at i, and where it ends -/
def am_nv (B : am_mJ) (s n i : Nat) : Int32 := if am_dg (am_lt B s n (i + 1)) = 0 then am_lt B s n i - 48 else 10 * (am_lt B s n i - 48) + am_lt B s n (i + 1) - 48
def am_ne (B : am_mJ) (s n i : Nat) : Nat := if am_dg (am_lt B s n (i + 1)) = 0 then i + 1 else i + 2
theorem nv_rg {B : am_mJ} {s n i : Nat} (h : ¬ am_dg (am_lt B s n i) = 0) : 0 ≤ (am_nv B s n i).toInt ∧ (am_nv B s n i).toInt ≤ 99 := by
  have a := dg_rg h
  have v48 : (48 : Int32).toInt = 48 := rfl
  have v10 : (10 : Int32).toInt = 10 := rfl
  have e : (am_lt B s n i - 48).toInt = (am_lt B s n i).toInt - 48 := by
    rw [Int32.toInt_sub, v48]
    exact Int.bmod_eq_of_le (by omega) (by omega)
  unfold am_nv
  by_cases c : am_dg (am_lt B s n (i + 1)) = 0
  · rw [if_pos c, e]
    omega
  · rw [if_neg c]
    have b := dg_rg c
    have e2 : (10 * (am_lt B s n i - 48)).toInt = 10 * ((am_lt B s n i).toInt - 48) := by
      rw [Int32.toInt_mul, v10, e]
      exact Int.bmod_eq_of_le (by omega) (by omega)
    have e3 : (10 * (am_lt B s n i - 48) + am_lt B s n (i + 1)).toInt = 10 * ((am_lt B s n i).toInt - 48) + (am_lt B s n (i + 1)).toInt := by
      rw [Int32.toInt_add, e2]
      exact Int.bmod_eq_of_le (by omega) (by omega)
    rw [Int32.toInt_sub, e3, v48, Int.bmod_eq_of_le (by omega) (by omega)]
    omega
theorem ne_rg {B : am_mJ} {s n i : Nat} : i + 1 ≤ am_ne B s n i ∧ am_ne B s n i ≤ i + 2 := by
  unfold am_ne
  split <;> omega
/-- what x's reader leaves as it is -/
theorem am_Rx.up {B : am_mJ} {s n : Nat} {Z : am_mI} (h : am_Rx B s n Z) {k : Nat} {v : Int32} (hk : k ≠ 1) : am_Rx B s n (am_upI Z 32 k v) :=
  ⟨by rw [am_upI_no (Ne.symm hk)]; exact h.1, fun i hi => by rw [am_upI_ne (by decide)]; exact h.2 i hi⟩
theorem xskip {Z : am_mI} {J : am_mJ} {lo hi : Int32} (h : ¬ Z 32 3 = -1) : DX5_readNumber Z J lo hi = some (-1, Z, J) := by
  unfold DX5_readNumber
  rw [if_neg h]
theorem xfail {Z : am_mI} {J : am_mJ} {e : Int32} (h : Z 32 3 = -1) : DX5_fail Z J e = some (0, am_upI Z 32 3 e, J) := by
  unfold DX5_fail
  rw [if_neg (not_not_intro h)]
theorem xnum {B : am_mJ} {J : am_mJ} {s n p : Nat} {Z : am_mI} (hx : am_Rx B s n Z) (hn : n ≤ 160) (hp : (Z 32 2).toInt = (p : Int)) (hp2 : p ≤ 1000) (hf : Z 32 3 = -1) (lo hi : Int32) :
    (¬ am_lt B s n p = 32 → DX5_readNumber Z J lo hi = some (-1, am_upI Z 32 3 (Z 32 2), J)) ∧
    (am_lt B s n p = 32 → am_dg (am_lt B s n (p + 1)) = 0 → ∃ e : Int32, e.toInt = ((p + 1 : Nat) : Int) ∧ DX5_readNumber Z J lo hi = some (-1, am_upI (am_upI Z 32 2 e) 32 3 e, J)) ∧
    (am_lt B s n p = 32 → ¬ am_dg (am_lt B s n (p + 1)) = 0 → ∃ e q : Int32, e.toInt = ((p + 1 : Nat) : Int) ∧ q.toInt = (am_ne B s n (p + 1) : Int) ∧ DX5_readNumber Z J lo hi = (if am_nv B s n (p + 1) < lo then some (-1, am_upI (am_upI Z 32 2 q) 32 3 e, J) else if am_nv B s n (p + 1) ≤ hi then some (am_nv B s n (p + 1), am_upI Z 32 2 q, J) else some (-1, am_upI (am_upI Z 32 2 q) 32 3 e, J))) := by
  have l0 := letterAs hx hn hp
  have p1 : (Z 32 2 + 1).toInt = ((p + 1 : Nat) : Int) := by
    rw [i32_succ (n := 10000) (by omega) (by omega) (by omega)]
    omega
  refine ⟨fun c => ?_, fun c d => ?_, fun c d => ?_⟩
  · unfold DX5_readNumber DX5_readSign
    rw [if_pos hf, l0, Option.bind_some, if_pos c, xfail hf, Option.bind_some, Option.bind_some]
    have ne : ¬ am_upI Z 32 3 (Z 32 2) 32 3 = -1 := by
      rw [am_upI_yes]
      intro e
      rw [e] at hp
      have : (-1 : Int32).toInt = -1 := rfl
      omega
    exact if_neg ne
  · have e3 : am_upI Z 32 2 (Z 32 2 + 1) 32 3 = -1 := (am_upI_no (by decide)).trans hf
    have e2 : am_upI Z 32 2 (Z 32 2 + 1) 32 2 = Z 32 2 + 1 := am_upI_yes
    have d1 := xdigit (hx.up (k := 2) (v := Z 32 2 + 1) (by decide)) hn p1
    rw [d] at d1
    refine ⟨Z 32 2 + 1, p1, ?_⟩
    unfold DX5_readNumber DX5_readSign
    rw [if_pos hf, l0, Option.bind_some, if_neg (not_not_intro c), Option.bind_some]
    dsimp only
    rw [e2, d1, xfail e3]
    exact (if_pos e3).trans rfl
  · have e3 : am_upI Z 32 2 (Z 32 2 + 1) 32 3 = -1 := (am_upI_no (by decide)).trans hf
    have e2 : am_upI Z 32 2 (Z 32 2 + 1) 32 2 = Z 32 2 + 1 := am_upI_yes
    have rx1 := hx.up (k := 2) (v := Z 32 2 + 1) (by decide)
    have d1 := xdigit rx1 hn p1
    have l1 := letterAs rx1 hn p1
    have p2 : (Z 32 2 + 1 + 1).toInt = ((p + 2 : Nat) : Int) := by
      rw [i32_succ (n := 10000) (by omega) (by omega) (by omega), p1]
      omega
    have rx2 := hx.up (k := 2) (v := Z 32 2 + 1 + 1) (by decide)
    have d2 := xdigit rx2 hn p2
    have l2 := letterAs rx2 hn p2
    unfold DX5_readNumber DX5_readSign
    rw [if_pos hf, l0, Option.bind_some, if_neg (not_not_intro c), Option.bind_some]
    dsimp only
    rw [e2, am_upI_twice, am_upI_yes, d1, l1, d2, l2]
    simp only [Option.bind_some]
    have f2 : ∀ v, am_upI Z 32 2 v 32 3 = -1 := fun v => (am_upI_no (by decide)).trans hf
    rw [xfail (f2 _), xfail (f2 _)]
    simp only [Option.bind_some]
    unfold am_nv am_ne
    rw [if_pos d]
    by_cases z : am_dg (am_lt B s n (p + 2)) = 0
    · refine ⟨Z 32 2 + 1, Z 32 2 + 1 + 1, p1, ?_, ?_⟩
      · rw [if_pos (show am_dg (am_lt B s n (p + 1 + 1)) = 0 from z)]
        exact p2
      · rw [if_pos (show am_dg (am_lt B s n (p + 1 + 1)) = 0 from z)]
        rw [if_pos z]
        exact if_pos e3
    · have p3 : (Z 32 2 + 1 + 1 + 1).toInt = ((p + 3 : Nat) : Int) := by
        rw [i32_succ (n := 10000) (by omega) (by omega) (by omega), p2]
        omega
      refine ⟨Z 32 2 + 1, Z 32 2 + 1 + 1 + 1, p1, ?_, ?_⟩
      · rw [if_neg (show ¬ am_dg (am_lt B s n (p + 1 + 1)) = 0 from z)]
        exact p3
      · rw [if_neg (show ¬ am_dg (am_lt B s n (p + 1 + 1)) = 0 from z)]
        rw [if_neg z, Int32.mul_comm (am_lt B s n (p + 1) - 48) 10, am_upI_twice, xfail (f2 _)]
        simp only [Option.bind_some]
        exact if_pos e3
/-- what m's reader leaves as it is -/
def am_Nm (A1 A2 : am_mI) : Prop := (∀ k, k ≠ 0 → A2 k = A1 k) ∧ ∀ q, q ≠ 26 → q ≠ 28 → q ≠ 29 → A2 0 q = A1 0 q
theorem am_Nm.me (A : am_mI) : am_Nm A A := ⟨fun _ _ => rfl, fun _ _ _ _ => rfl⟩
theorem am_Nm.up {A1 A2 : am_mI} (h : am_Nm A1 A2) {k : Nat} {v : Int32} (hk : k = 26 ∨ k = 28 ∨ k = 29) : am_Nm A1 (am_upI A2 0 k v) :=
  ⟨fun q hq => (am_upI_ne hq).trans (h.1 q hq), fun q h1 h2 h3 => (am_upI_no (by omega)).trans (h.2 q h1 h2 h3)⟩
theorem am_Nm.trans {A A1 A2 : am_mI} (h : am_Nm A A1) (g : am_Nm A1 A2) : am_Nm A A2 := ⟨fun k hk => (g.1 k hk).trans (h.1 k hk), fun q h1 h2 h3 => (g.2 q h1 h2 h3).trans (h.2 q h1 h2 h3)⟩
theorem am_Rm.nm {s n : Nat} {A1 A2 : am_mI} (h : am_Rm s n A1) (g : am_Nm A1 A2) : am_Rm s n A2 := ⟨by rw [g.2 27 (by decide) (by decide) (by decide)]; exact h.1, by rw [g.2 25 (by decide) (by decide) (by decide)]; exact h.2.1, (g.1 17 (by decide)).trans h.2.2⟩
theorem mnum {B : am_mJ} {s n p : Nat} {A1 : am_mI} (hm : am_Rm s n A1) (hs : s < 8) (hn : n ≤ 160) (hp : (A1 0 26).toInt = (p : Int)) (hp2 : p ≤ 1000) :
    (am_dg (am_lt B s n p) = 0 → ∃ A2 : am_mI, DX8_number A1 B = some (0, A2, B) ∧ am_Nm A1 A2 ∧ A2 0 29 = A1 0 26) ∧
    (¬ am_dg (am_lt B s n p) = 0 → ∃ A2 : am_mI, DX8_number A1 B = some (1, A2, B) ∧ am_Nm A1 A2 ∧ A2 0 28 = am_nv B s n p ∧ (A2 0 26).toInt = (am_ne B s n p : Int)) := by
  have n0 : am_Nm A1 (am_upI A1 0 28 0) := (am_Nm.me A1).up (by decide)
  have e26 : am_upI A1 0 28 0 0 26 = A1 0 26 := am_upI_no (by decide)
  have d0 := mdigit (B := B) (hm.nm n0) hs hn (by rw [e26]; exact hp)
  refine ⟨fun d => ?_, fun d => ?_⟩
  · rw [d] at d0
    unfold DX8_number DX8_faulty
    rw [d0, Option.bind_some, if_neg (show ¬ ¬ (0 : Int32) = 0 from fun f => f rfl), Option.bind_some]
    refine ⟨am_upI (am_upI A1 0 28 0) 0 29 (am_upI A1 0 28 0 0 26), if_pos (Or.inl rfl), n0.up (by decide), ?_⟩
    rw [am_upI_yes, e26]
  · have pn : p < n := by
      by_cases c : p < n
      · exact c
      · exfalso
        apply d
        unfold am_lt
        rw [if_neg c]
        rfl
    obtain ⟨g, e⟩ := mletter (B := B) (hm.nm n0) hs hn (a := A1 0 26) hp pn
    have e25 : am_upI A1 0 28 0 0 25 = A1 0 25 := am_upI_no (by decide)
    rw [e25] at g e
    have p1 : (A1 0 26 + 1).toInt = ((p + 1 : Nat) : Int) := by
      rw [i32_succ (n := 10000) (by omega) (by omega) (by omega)]
      omega
    have n1 : am_Nm A1 (am_upI (am_upI A1 0 28 (am_lt B s n p - 48)) 0 26 (A1 0 26 + 1)) := ((am_Nm.me A1).up (by decide)).up (by decide)
    have d1 := mdigit (B := B) (hm.nm n1) hs hn (by rw [am_upI_yes]; exact p1)
    unfold DX8_number
    rw [d0, Option.bind_some, if_pos d, e25, e26, if_pos g, e, am_upI_twice, Option.bind_some]
    have f26 : am_upI A1 0 28 (am_lt B s n p - 48) 0 26 = A1 0 26 := am_upI_no (by decide)
    rw [f26, d1, Option.bind_some]
    unfold am_nv am_ne
    by_cases z : am_dg (am_lt B s n (p + 1)) = 0
    · rw [if_pos z, if_pos z, if_pos z]
      refine ⟨_, rfl, n1, ?_, ?_⟩
      · rw [am_upI_no (by decide), am_upI_yes]
      · rw [am_upI_yes]
        exact p1
    · have pn1 : p + 1 < n := by
        by_cases c : p + 1 < n
        · exact c
        · exfalso
          apply z
          unfold am_lt
          rw [if_neg c]
          rfl
      obtain ⟨g1, e1⟩ := mletter (B := B) (hm.nm n1) hs hn (a := A1 0 26 + 1) p1 pn1
      have h25 : am_upI (am_upI A1 0 28 (am_lt B s n p - 48)) 0 26 (A1 0 26 + 1) 0 25 = A1 0 25 := by rw [am_upI_no (by decide), am_upI_no (by decide)]
      have h26 : am_upI (am_upI A1 0 28 (am_lt B s n p - 48)) 0 26 (A1 0 26 + 1) 0 26 = A1 0 26 + 1 := am_upI_yes
      have h28 : am_upI (am_upI A1 0 28 (am_lt B s n p - 48)) 0 26 (A1 0 26 + 1) 0 28 = am_lt B s n p - 48 := by rw [am_upI_no (by decide), am_upI_yes]
      rw [h25] at g1 e1
      rw [if_neg z, if_neg z, if_neg z, h25, h26, if_pos g1, e1, h28, Option.bind_some]
      refine ⟨_, rfl, (n1.up (by decide)).up (by decide), ?_, ?_⟩
      · rw [am_upI_no (by decide), am_upI_yes]
      · rw [am_upI_yes, am_upI_no (by decide), h26]
        rw [i32_succ (n := 10000) (by omega) (by omega) (by omega), p1]
        omega
