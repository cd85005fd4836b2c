/-! SENTENCES: what doesn't touch the tie -/
theorem am_Iv.same {t : Nat} {I : am_mI} {J : am_mJ} {A : am_mI} {B : am_mJ} (h : am_Iv t I J A B) {I1 A1 : am_mI} {J1 B1 : am_mJ} (hI : ∀ k, k < 12 ∨ (22 ≤ k ∧ k < 32) ∨ 38 ≤ k → I1 k = I k) (hA : ∀ k, k < 18 ∨ k = 20 ∨ k = 25 → A1 k = A k) (hJ : J1 = J) (hB : B1 15 = B 15) (ho : am_Ot I1 A1) : am_Iv t I1 J1 A1 B1 := by
  have i0 := hI 0 (by decide)
  have i2 := hI 2 (by decide)
  have i40 := hI 40 (by decide)
  have i38 := hI 38 (by decide)
  have i39 := hI 39 (by decide)
  have a0 := hA 0 (by decide)
  have a1 := hA 1 (by decide)
  subst hJ
  refine ⟨?_, ?_, ?_, ?_, ?_, ?_, ?_, ?_, (hA 17 (by decide)).trans h.wd, ?_, ho⟩
  · refine ⟨((hI 3 (by decide)).trans h.bd.r0).trans (hA 2 (by decide)).symm, ((hI 4 (by decide)).trans h.bd.r1).trans (hA 3 (by decide)).symm, ((hI 5 (by decide)).trans h.bd.r2).trans (hA 4 (by decide)).symm, ((hI 6 (by decide)).trans h.bd.r3).trans (hA 5 (by decide)).symm, ((hI 7 (by decide)).trans h.bd.r4).trans (hA 6 (by decide)).symm, ((hI 8 (by decide)).trans h.bd.r5).trans (hA 7 (by decide)).symm, ((hI 9 (by decide)).trans h.bd.r6).trans (hA 8 (by decide)).symm, ((hI 10 (by decide)).trans h.bd.r7).trans (hA 9 (by decide)).symm, ((hI 11 (by decide)).trans h.bd.r8).trans (hA 10 (by decide)).symm, ?_⟩
    have := h.bd.2.2.2.2.2.2.2.2.2
    unfold am_mn at this ⊢
    rw [i2, a0]
    exact this
  · have := h.rf
    unfold am_Rf at this ⊢
    rw [i40, a1]
    exact this
  · rw [i0, a0]
    exact h.ft
  · intro s hs
    have := h.sh s hs
    unfold am_Sh at this ⊢
    rw [hI (41 + 2 * s) (by omega), hA 11 (by decide), hA 12 (by decide), hA 13 (by decide), hA 14 (by decide), hB]
    exact this
  · have := h.im
    unfold am_Im at this ⊢
    rw [i0, a0, hA 20 (by decide), hI 22 (by decide), hI 23 (by decide), hI 24 (by decide), hI 25 (by decide), hI 26 (by decide), hI 27 (by decide), hI 28 (by decide), hI 29 (by decide), hI 30 (by decide), hI 31 (by decide)]
    exact this
  · have := h.ac
    unfold am_Ac at this ⊢
    rw [i38, i39, a0, hA 25 (by decide)]
    exact this
  · have := h.rg
    unfold am_Rg am_mr am_mn at this ⊢
    rw [a0, hA (0 + 2) (by decide), hA (1 + 2) (by decide), hA (2 + 2) (by decide), hA (3 + 2) (by decide), hA (4 + 2) (by decide), hA (5 + 2) (by decide), hA (6 + 2) (by decide), hA (7 + 2) (by decide), hA (8 + 2) (by decide)]
    exact this
  · have := h.kg
    have z : am_kr A1 = am_kr A := by
      funext q i
      unfold am_kr
      rw [hA 20 (by decide)]
    have z2 : am_kn A1 = am_kn A := by
      funext q
      unfold am_kn
      rw [hA 20 (by decide)]
    rw [z, z2, a0]
    exact this
  · have := h.st
    unfold am_St at this ⊢
    rw [a0, hA 11 (by decide), hA 14 (by decide)]
    exact this
/-! SENTENCES: copy -/
theorem LX8_copy_s0 (n : Nat) (I : (Nat → Nat → Int32)) (J : (Nat → Nat → Int64)) (x1 : Int32) (x2 : Int32) (x3 : Int32) (x4 : Int32) (x5 : Int32) (x6 : Int32) : LX8_copy (n + 1) 0 I J x1 x2 x3 x4 x5 x6 =
    if x5 ≤ x6 then
      LX8_copy n 1 I J 0 x2 0 x4 x5 ((0 : Int32))
    else
      if ¬ (((((160 : Int32) * x1) + x3) + x6) < 0 ∨ 1280 ≤ (((((160 : Int32) * x1) + x3) + x6)).toNatClampNeg) then
        if ¬ (x6 < 0 ∨ 160 ≤ (x6).toNatClampNeg) then
          LX8_copy n 0 I ((am_upJ J 16 (x6).toNatClampNeg (J 15 (((((160 : Int32) * x1) + x3) + x6)).toNatClampNeg))) x1 x2 x3 x4 x5 ((x6 + (1 : Int32)))
        else none
      else none := rfl
theorem LX8_copy_s1 (n : Nat) (I : (Nat → Nat → Int32)) (J : (Nat → Nat → Int64)) (x1 : Int32) (x2 : Int32) (x3 : Int32) (x4 : Int32) (x5 : Int32) (x6 : Int32) : LX8_copy (n + 1) 1 I J x1 x2 x3 x4 x5 x6 =
    if x5 ≤ x6 then
      some ((1 : Int32), I, J)
    else
      if ¬ (x6 < 0 ∨ 160 ≤ (x6).toNatClampNeg) then
        if ¬ (((((160 : Int32) * x2) + x4) + x6) < 0 ∨ 1280 ≤ (((((160 : Int32) * x2) + x4) + x6)).toNatClampNeg) then
          LX8_copy n 1 I ((am_upJ J 15 (((((160 : Int32) * x2) + x4) + x6)).toNatClampNeg (J 16 (x6).toNatClampNeg))) 0 x2 0 x4 x5 ((x6 + (1 : Int32)))
        else none
      else none := rfl
/-- what is carried ahead of k; what is laid down ahead of k -/
def am_c1 (B : am_mJ) (f k : Nat) : am_mJ := fun a b => if a = 16 ∧ b < k then B 15 (f + b) else B a b
def am_c2 (B : am_mJ) (f k : Nat) : am_mJ := fun a b => if a = 15 ∧ f ≤ b ∧ b < f + k then B 16 (b - f) else B a b
theorem am_c1.step {B : am_mJ} {f k : Nat} : am_upJ (am_c1 B f k) 16 k (am_c1 B f k 15 (f + k)) = am_c1 B f (k + 1) := by
  funext a b
  unfold am_upJ am_c1
  rw [if_neg (show ¬ ((15 : Nat) = 16 ∧ f + k < k) by omega)]
  by_cases p : a = 16
  · by_cases q : b = k
    · rw [if_pos ⟨p, q⟩, if_pos ⟨p, by omega⟩, q]
    · rw [if_neg (fun z => q z.2)]
      by_cases r : b < k
      · rw [if_pos ⟨p, r⟩, if_pos ⟨p, by omega⟩]
      · rw [if_neg (fun z => r z.2), if_neg (fun z => r (by omega))]
  · rw [if_neg (fun z => p z.1), if_neg (fun z => p z.1), if_neg (fun z => p z.1)]
theorem am_c2.step {B : am_mJ} {f k : Nat} : am_upJ (am_c2 B f k) 15 (f + k) (am_c2 B f k 16 k) = am_c2 B f (k + 1) := by
  funext a b
  unfold am_upJ am_c2
  rw [if_neg (show ¬ ((16 : Nat) = 15 ∧ f ≤ k ∧ k < f + k) by omega)]
  by_cases p : a = 15
  · by_cases q : b = f + k
    · rw [if_pos ⟨p, q⟩, if_pos ⟨p, by omega, by omega⟩, q, Nat.add_sub_cancel_left]
    · rw [if_neg (fun z => q z.2)]
      by_cases r : f ≤ b ∧ b < f + k
      · rw [if_pos ⟨p, r⟩, if_pos ⟨p, by omega, by omega⟩]
      · rw [if_neg (fun z => r z.2), if_neg (fun z => r ⟨z.2.1, by omega⟩)]
  · rw [if_neg (fun z => p z.1), if_neg (fun z => p z.1), if_neg (fun z => p z.1)]
theorem copy_ix {a i x : Int32} {s : Nat} (hs : s < 8) (ea : a.toInt = (s : Int)) (h0 : 0 ≤ i.toInt) (h1 : 0 ≤ x.toInt) (h2 : i.toInt + x.toInt < 160) : ¬ ((160 : Int32) * a + i + x < 0 ∨ 1280 ≤ ((160 : Int32) * a + i + x).toNatClampNeg) ∧ ((160 : Int32) * a + i + x).toNatClampNeg = 160 * s + i.toNatClampNeg + x.toNatClampNeg := by
  have q0 : (0 : Int32).toInt = 0 := rfl
  have v : (160 : Int32).toInt = 160 := rfl
  have m : ((160 : Int32) * a).toInt = 160 * (s : Int) := by
    rw [Int32.toInt_mul, v, ea]
    exact Int.bmod_eq_of_le (by omega) (by omega)
  have w : ((160 : Int32) * a + i).toInt = 160 * (s : Int) + i.toInt := by
    rw [Int32.toInt_add, m]
    exact Int.bmod_eq_of_le (by omega) (by omega)
  have w2 : ((160 : Int32) * a + i + x).toInt = 160 * (s : Int) + i.toInt + x.toInt := by
    rw [Int32.toInt_add, w]
    exact Int.bmod_eq_of_le (by omega) (by omega)
  have e : ((160 : Int32) * a + i + x).toNatClampNeg = ((160 : Int32) * a + i + x).toInt.toNat := rfl
  have e2 : i.toNatClampNeg = i.toInt.toNat := rfl
  have e3 : x.toNatClampNeg = x.toInt.toNat := rfl
  rw [Int32.lt_iff_toInt_lt]
  omega
theorem carry_sim {A : am_mI} {B : am_mJ} {p q i j n : Int32} {s : Nat} (hs : s < 8) (es : p.toInt = (s : Int)) (hi : 0 ≤ i.toInt) (hn : i.toInt + n.toInt ≤ 160) : ∀ (k m : Nat) (x : Int32), 0 ≤ x.toInt → x.toInt + k = n.toInt →
    LX8_copy (m + k + 1) 0 A (am_c1 B (160 * s + i.toNatClampNeg) x.toNatClampNeg) p q i j n x = LX8_copy m 1 A (am_c1 B (160 * s + i.toNatClampNeg) n.toNatClampNeg) 0 q 0 j n 0 := by
  intro k
  induction k with
  | zero =>
    intro m x h0 h1
    have e : n = x := Int32.toInt_inj.mp (by omega)
    have z : n ≤ x := by
      rw [Int32.le_iff_toInt_le]
      omega
    rw [LX8_copy_s0, if_pos z, e]
  | succ k ih =>
    intro m x h0 h1
    have e : x.toNatClampNeg = x.toInt.toNat := rfl
    have z : ¬ n ≤ x := by
      rw [Int32.le_iff_toInt_le]
      omega
    have x1 : (x + 1).toInt = x.toInt + 1 := i32_succ (n := 160) (by omega) (by omega) (by omega)
    have x2 : (x + 1).toNatClampNeg = x.toNatClampNeg + 1 := by
      have e2 : (x + 1).toNatClampNeg = (x + 1).toInt.toNat := rfl
      omega
    have g : ¬ (x < 0 ∨ 160 ≤ x.toNatClampNeg) := am_in (n := 160) (by ((try simp only [Int32.lt_iff_toInt_lt, Int32.le_iff_toInt_le, Int32.reduceToInt, ← Int32.toNat_toInt, ← Int32.toInt_inj] at *) <;> omega)) (by omega)
    obtain ⟨y1, y2⟩ := copy_ix (i := i) (x := x) hs es hi h0 (by omega)
    have hh := ih m (x + 1) (by omega) (by omega)
    rw [x2] at hh
    rw [show m + (k + 1) + 1 = (m + k + 1) + 1 from rfl, LX8_copy_s0, if_neg z, if_pos y1, if_pos g, y2, am_c1.step, hh]
theorem lay_sim {A : am_mI} {B : am_mJ} {q j n : Int32} {s : Nat} (hs : s < 8) (es : q.toInt = (s : Int)) (hj : 0 ≤ j.toInt) (hn : j.toInt + n.toInt ≤ 160) : ∀ (k m : Nat) (x : Int32), 0 ≤ x.toInt → x.toInt + k = n.toInt →
    LX8_copy (m + k + 1) 1 A (am_c2 B (160 * s + j.toNatClampNeg) x.toNatClampNeg) 0 q 0 j n x = some (1, A, am_c2 B (160 * s + j.toNatClampNeg) n.toNatClampNeg) := by
  intro k
  induction k with
  | zero =>
    intro m x h0 h1
    have e : n = x := Int32.toInt_inj.mp (by omega)
    have z : n ≤ x := by
      rw [Int32.le_iff_toInt_le]
      omega
    rw [LX8_copy_s1, if_pos z, e]
  | succ k ih =>
    intro m x h0 h1
    have e : x.toNatClampNeg = x.toInt.toNat := rfl
    have z : ¬ n ≤ x := by
      rw [Int32.le_iff_toInt_le]
      omega
    have x1 : (x + 1).toInt = x.toInt + 1 := i32_succ (n := 160) (by omega) (by omega) (by omega)
    have x2 : (x + 1).toNatClampNeg = x.toNatClampNeg + 1 := by
      have e2 : (x + 1).toNatClampNeg = (x + 1).toInt.toNat := rfl
      omega
    have g : ¬ (x < 0 ∨ 160 ≤ x.toNatClampNeg) := am_in (n := 160) (by ((try simp only [Int32.lt_iff_toInt_lt, Int32.le_iff_toInt_le, Int32.reduceToInt, ← Int32.toNat_toInt, ← Int32.toInt_inj] at *) <;> omega)) (by omega)
    obtain ⟨y1, y2⟩ := copy_ix (i := j) (x := x) hs es hj h0 (by omega)
    have hh := ih m (x + 1) (by omega) (by omega)
    rw [x2] at hh
    rw [show m + (k + 1) + 1 = (m + k + 1) + 1 from rfl, LX8_copy_s1, if_neg z, if_pos g, if_pos y1, y2, am_c2.step, hh]
theorem am_c1.none (B : am_mJ) (f : Nat) : am_c1 B f 0 = B := by
  funext a b
  unfold am_c1
  rw [if_neg (by omega)]
theorem am_c2.none (B : am_mJ) (f : Nat) : am_c2 B f 0 = B := by
  funext a b
  unfold am_c2
  rw [if_neg (by omega)]
theorem copyAs {t : Nat} {I : am_mI} {J : am_mJ} {A : am_mI} {B : am_mJ} (h : am_Iv t I J A B) {p q i j n : Int32} {u v : Nat} (hu : u < 8) (eu : p.toInt = (u : Int)) (hv : v < 8) (ev : q.toInt = (v : Int)) (hn : 0 ≤ n.toInt) (hi : 0 ≤ i.toInt) (hi2 : i.toInt + n.toInt ≤ 160) (hj : 0 ≤ j.toInt) (hj2 : j.toInt + n.toInt ≤ 160) :
    ∃ B1 : am_mJ, LX8_copy am_FU 0 A B p q i j n 0 = some (1, A, B1) ∧ am_Iv t I (am_cpJ J (42 + 2 * u) (42 + 2 * v) i.toNatClampNeg j.toNatClampNeg n.toNatClampNeg) A B1 := by
  have f : am_FU = 1000000 := rfl
  have z0 : (0 : Int32).toInt = 0 := rfl
  have en : n.toNatClampNeg = n.toInt.toNat := rfl
  have ei : i.toNatClampNeg = i.toInt.toNat := rfl
  have ej : j.toNatClampNeg = j.toInt.toNat := rfl
  have s1 := carry_sim (A := A) (B := B) (p := p) (q := q) (j := j) hu eu hi hi2 n.toInt.toNat (am_FU - n.toInt.toNat - 1) 0 (by omega) (by omega)
  have s2 := lay_sim (A := A) (B := am_c1 B (160 * u + i.toNatClampNeg) n.toNatClampNeg) (q := q) hv ev hj hj2 n.toInt.toNat (am_FU - n.toInt.toNat - 1 - n.toInt.toNat - 1) 0 (by omega) (by omega)
  rw [show (0 : Int32).toNatClampNeg = 0 from rfl, am_c1.none, show am_FU - n.toInt.toNat - 1 + n.toInt.toNat + 1 = am_FU by omega] at s1
  rw [show (0 : Int32).toNatClampNeg = 0 from rfl, am_c2.none, show am_FU - n.toInt.toNat - 1 - n.toInt.toNat - 1 + n.toInt.toNat + 1 = am_FU - n.toInt.toNat - 1 by omega] at s2
  refine ⟨_, s1.trans s2, ?_⟩
  have e15 : ∀ b, am_c2 (am_c1 B (160 * u + i.toNatClampNeg) n.toNatClampNeg) (160 * v + j.toNatClampNeg) n.toNatClampNeg 15 b = if 160 * v + j.toNatClampNeg ≤ b ∧ b < 160 * v + j.toNatClampNeg + n.toNatClampNeg then B 15 (160 * u + i.toNatClampNeg + (b - (160 * v + j.toNatClampNeg))) else B 15 b := by
    intro b
    unfold am_c2 am_c1
    by_cases c : 160 * v + j.toNatClampNeg ≤ b ∧ b < 160 * v + j.toNatClampNeg + n.toNatClampNeg
    · rw [if_pos ⟨rfl, c⟩, if_pos c, if_pos ⟨rfl, by omega⟩]
    · rw [if_neg (fun z => c z.2), if_neg c, if_neg (by omega)]
  refine h.shelf hv (fun _ _ => rfl) (fun k hk => ?_) (fun _ _ _ _ _ => rfl) (fun _ _ => ⟨rfl, rfl, rfl, rfl⟩) (fun w hw e b hb => ?_) ?_ (h.st v hv)
  · funext b
    unfold am_cpJ
    rw [if_neg hk]
  · rw [e15, if_neg (by omega)]
  · obtain ⟨c1, c2, c3, c4, c5, c6, c7, c8, c9, c10⟩ := h.sh v hv
    obtain ⟨-, -, -, -, -, -, -, -, -, d10⟩ := h.sh u hu
    refine ⟨c1, c2, c3, c4, c5, c6, c7, c8, c9, fun b hb => ?_⟩
    rw [e15]
    unfold am_cpJ va_cpy
    rw [if_pos rfl]
    by_cases c : j.toNatClampNeg ≤ b ∧ b < j.toNatClampNeg + n.toNatClampNeg
    · rw [if_pos c, if_pos (by omega), d10 _ (by omega), show 160 * u + i.toNatClampNeg + (160 * v + b - (160 * v + j.toNatClampNeg)) = 160 * u + (i.toNatClampNeg + (b - j.toNatClampNeg)) by omega]
    · rw [if_neg c, if_neg (by omega)]
      exact c10 b hb
theorem has_tab {I : am_mI} {o : Nat} {i n s : Int32} (e : I o 3 = s) (hs : 0 ≤ s.toInt ∧ s.toInt ≤ 160) (hn : 0 ≤ n.toInt) : DX3_hasElements I o i n = if 0 ≤ i.toInt ∧ i.toInt + n.toInt ≤ s.toInt then 1 else 0 := by
  unfold DX3_hasElements
  rw [e]
  have z0 : (0 : Int32).toInt = 0 := rfl
  have ed : (s - n).toInt = s.toInt - n.toInt := by
    rw [Int32.toInt_sub]
    exact Int.bmod_eq_of_le (by have := Int32.toInt_lt n; omega) (by omega)
  by_cases c0 : i < 0
  · rw [if_pos c0, if_neg]
    rw [Int32.lt_iff_toInt_lt] at c0
    omega
  · rw [if_neg c0, if_neg (show ¬ n < 0 by rw [Int32.lt_iff_toInt_lt]; omega)]
    rw [Int32.lt_iff_toInt_lt] at c0
    by_cases c1 : s < n
    · rw [if_pos c1, if_neg]
      rw [Int32.lt_iff_toInt_lt] at c1
      omega
    · rw [if_neg c1]
      by_cases c2 : s - n < i
      · rw [if_pos c2, if_neg]
        rw [Int32.lt_iff_toInt_lt] at c2
        omega
      · rw [if_neg c2, if_pos]
        rw [Int32.lt_iff_toInt_lt] at c2
        omega
/-- m's copy behind its first guards -/
theorem mcopy {i j n s s' : Int32} (hs : 0 ≤ s.toInt ∧ s.toInt ≤ 160) (hs' : 0 ≤ s'.toInt ∧ s'.toInt ≤ 160) (hn : 0 ≤ n.toInt) (X Y : Option (Int32 × am_mI × am_mJ)) :
    (if i < 0 then Y else if j < 0 then Y else if s - n < i then Y else if j ≤ s' - n then X else Y) = if (0 ≤ i.toInt ∧ i.toInt + n.toInt ≤ s.toInt) ∧ (0 ≤ j.toInt ∧ j.toInt + n.toInt ≤ s'.toInt) then X else Y := by
  have z0 : (0 : Int32).toInt = 0 := rfl
  have ed : (s - n).toInt = s.toInt - n.toInt := by
    rw [Int32.toInt_sub]
    exact Int.bmod_eq_of_le (by have := Int32.toInt_lt n; omega) (by omega)
  have ed' : (s' - n).toInt = s'.toInt - n.toInt := by
    rw [Int32.toInt_sub]
    exact Int.bmod_eq_of_le (by have := Int32.toInt_lt n; omega) (by omega)
  by_cases c0 : i < 0
  · rw [if_pos c0, if_neg]
    rw [Int32.lt_iff_toInt_lt] at c0
    omega
  · rw [if_neg c0]
    rw [Int32.lt_iff_toInt_lt] at c0
    by_cases c1 : j < 0
    · rw [if_pos c1, if_neg]
      rw [Int32.lt_iff_toInt_lt] at c1
      omega
    · rw [if_neg c1]
      rw [Int32.lt_iff_toInt_lt] at c1
      by_cases c2 : s - n < i
      · rw [if_pos c2, if_neg]
        rw [Int32.lt_iff_toInt_lt] at c2
        omega
      · rw [if_neg c2]
        rw [Int32.lt_iff_toInt_lt] at c2
        by_cases c3 : j ≤ s' - n
        · rw [if_pos c3, if_pos]
          rw [Int32.le_iff_toInt_le] at c3
          omega
        · rw [if_neg c3, if_neg]
          rw [Int32.le_iff_toInt_le] at c3
          omega
theorem op_copy {t : Nat} {I : am_mI} {J : am_mJ} {A : am_mI} {B : am_mJ} (h : am_Iv t I J A B) (p q i j n : Int32) : am_Tw (t + 20000) (DX7_copy I J p q i j n) (DX8_copy A B p q i j n) := by
  unfold DX7_copy DX8_copy
  rcases shelf_in p with ⟨h1, h2⟩ | ⟨u, hu, e1, e2, h1, h2, h3⟩
  · rw [if_pos h1, if_pos h2]
    have z := am_Tw.no1 h
    split <;> exact z
  rcases shelf_in q with ⟨k1, k2⟩ | ⟨v, hv, f1, f2, k1, k2, k3⟩
  · rw [if_neg (by omega), if_pos k1, if_neg h2, if_neg (not_not_intro k2)]
    exact .no1 h
  rw [if_neg (by omega), if_neg (by omega), if_neg h2, if_pos k2, h1, k1]
  simp only [if_pos h3, if_pos k3]
  rw [e1, f1]
  obtain ⟨c1, c2, c3, c4, c5, c6, c7, c8, c9, c10⟩ := h.sh u hu
  obtain ⟨d1, d2, d3, d4, d5, d6, d7, d8, d9, d10⟩ := h.sh v hv
  unfold DX3_isOfOtherSort DX3_holdsStuff DX3_holdsRow
  rw [c1, d1, c2, d2]
  have g2 := am_Tw.no2 h
  have g3 := am_Tw.no3 h
  have z1 : ¬ (1 : Int32) = 2 := by decide
  have z2 : ¬ (1 : Int32) = 0 := by decide
  rcases c6 with r | r | r <;> rcases d6 with w | w | w <;> rw [r, w]
  · exact g3
  · exact g3
  · exact g2
  · exact g3
  · have a3 := c3 r
    have b3 := d3 w
    simp only [z1, z2, not_false_eq_true, not_true_eq_false, if_true, if_false]
    by_cases so : A 12 u = A 12 v
    · rw [if_pos so, if_pos so]
      simp only [z2, not_false_eq_true, not_true_eq_false, if_true, if_false]
      by_cases n0 : 0 ≤ n
      · rw [if_pos n0, if_pos n0]
        have hn : 0 ≤ n.toInt := by
          have z0 : (0 : Int32).toInt = 0 := rfl
          rw [Int32.le_iff_toInt_le] at n0
          omega
        rw [mcopy c7 d7 hn, has_tab a3 c7 hn, has_tab b3 d7 hn]
        by_cases y1 : 0 ≤ i.toInt ∧ i.toInt + n.toInt ≤ (A 13 u).toInt
        · rw [if_pos y1, if_neg z2]
          by_cases y2 : 0 ≤ j.toInt ∧ j.toInt + n.toInt ≤ (A 13 v).toInt
          · rw [if_pos y2, if_pos z2, if_pos ⟨y1, y2⟩]
            obtain ⟨B1, b1, b2⟩ := copyAs h (i := i) (j := j) (n := n) hu e2 hv f2 hn y1.1 (by omega) y2.1 (by omega)
            have g : (¬ i < 0 ∧ ¬ j < 0 ∧ ¬ n < 0) ∧ i.toNatClampNeg + n.toNatClampNeg ≤ 160 ∧ j.toNatClampNeg + n.toNatClampNeg ≤ 160 := by
              clear c1 c2 c3 c4 c5 c8 c9 c10 d1 d2 d3 d4 d5 d8 d9 d10 g2 g3 b1 h1 h2 k1 k2 r w a3 b3 so z1 z2
              have e5 : i.toNatClampNeg = i.toInt.toNat := rfl
              have e6 : j.toNatClampNeg = j.toInt.toNat := rfl
              have e7 : n.toNatClampNeg = n.toInt.toNat := rfl
              have z0 : (0 : Int32).toInt = 0 := rfl
              rw [Int32.lt_iff_toInt_lt, Int32.lt_iff_toInt_lt, Int32.lt_iff_toInt_lt]
              omega
            have ct : DX3_copyTo I J (41 + 2 * u) (41 + 2 * v) i j n = some (0, I, am_cpJ J (42 + 2 * u) (42 + 2 * v) i.toNatClampNeg j.toNatClampNeg n.toNatClampNeg) := by
              unfold DX3_copyTo
              rw [has_tab a3 c7 hn, has_tab b3 d7 hn, if_pos y1, if_pos y2, if_neg z2, if_neg z2, if_pos g, show 41 + 2 * u + 1 = 42 + 2 * u by omega, show 41 + 2 * v + 1 = 42 + 2 * v by omega]
            rw [ct, Option.bind_some, b1]
            exact .mk1 b2
          · rw [if_neg y2, if_neg (show ¬ ¬ (0 : Int32) = 0 from fun f => f rfl), if_neg (fun z => y2 z.2)]
            exact .no5 h
        · rw [if_neg y1, if_pos (show (0 : Int32) = 0 from rfl), if_neg (fun z => y1 z.1)]
          exact .no5 h
      · rw [if_neg n0, if_neg n0]
        exact .no4 h
    · rw [if_neg so, if_neg so]
      exact g2
  · exact g2
  · exact g2
  · exact g2
  · exact g2
