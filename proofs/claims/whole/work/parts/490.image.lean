/-! SENTENCES: what is carried away and back; image; restore -/
theorem LX8_carries_s (n : Nat) (I : (Nat → Nat → Int32)) (J : (Nat → Nat → Int64)) (g0 : Nat) (g2 : Nat) (x2 : Int32) (x4 : Int32) (x5 : Int32) (x6 : Int32) : LX8_carries (n + 1) I J g0 g2 x2 x4 x5 x6 =
    if x2 ≤ x6 then
      some ((x4 + x2), I, J)
    else
      if x5 = 0 then
        if ¬ (x6 < 0 ∨ (am_nth TM g0).snd ≤ (x6).toNatClampNeg) then
          if ¬ ((x4 + x6) < 0 ∨ 180 ≤ ((x4 + x6)).toNatClampNeg) then
            LX8_carries n ((am_upI I g2 ((x4 + x6)).toNatClampNeg (I g0 (x6).toNatClampNeg))) J g0 g2 x2 x4 x5 ((x6 + (1 : Int32)))
          else none
        else none
      else
        if ¬ ((x4 + x6) < 0 ∨ 180 ≤ ((x4 + x6)).toNatClampNeg) then
          if ¬ (x6 < 0 ∨ (am_nth TM g0).snd ≤ (x6).toNatClampNeg) then
            LX8_carries n ((am_upI I g0 (x6).toNatClampNeg (I g2 ((x4 + x6)).toNatClampNeg))) J g0 g2 x2 x4 x5 ((x6 + (1 : Int32)))
          else none
        else none := rfl
def am_of (j : Nat) : Nat := if j < 3 then 8 * j else 24 * j - 48
def am_ln (j : Nat) : Nat := if j < 3 then 8 else 24
theorem cpI_src {I : am_mI} {g h f n b : Nat} : am_cpI I g h 0 f n h b = if f ≤ b ∧ b < f + n then I g (b - f) else I h b := by
  unfold am_cpI va_cpy
  rw [if_pos rfl, Nat.zero_add]
theorem away_sim {A : am_mI} {B : am_mJ} {g h : Nat} {n f : Int32} (hg : g ≠ h) (hl : n.toInt ≤ ((am_nth TM g).snd : Int)) (hn : n.toInt ≤ 24) (hf : 0 ≤ f.toInt ∧ f.toInt + n.toInt ≤ 180) : ∀ (k m : Nat) (x : Int32), 0 ≤ x.toInt → x.toInt + k = n.toInt →
    LX8_carries (m + k + 1) (am_cpI A g h 0 f.toNatClampNeg x.toNatClampNeg) B g h n f 0 x = some (f + n, am_cpI A g h 0 f.toNatClampNeg n.toNatClampNeg, B) := by
  intro k
  induction k with
  | zero =>
    intro m x h0 h1
    have e : n = x := Int32.toInt_inj.mp (by omega)
    have q : n ≤ x := by
      rw [Int32.le_iff_toInt_le]
      omega
    rw [LX8_carries_s, if_pos q, e]
  | succ k ih =>
    intro m x h0 h1
    have e : x.toNatClampNeg = x.toInt.toNat := rfl
    have ef : f.toNatClampNeg = f.toInt.toNat := rfl
    have q : ¬ n ≤ x := by
      rw [Int32.le_iff_toInt_le]
      omega
    have x1 : (x + 1).toInt = x.toInt + 1 := i32_succ (n := 24) (by omega) (by omega) (by omega)
    have x2 : (x + 1).toNatClampNeg = x.toNatClampNeg + 1 := by
      have e2 : (x + 1).toNatClampNeg = (x + 1).toInt.toNat := rfl
      omega
    have v0 : (0 : Int32).toInt = 0 := rfl
    have g1 : ¬ (x < 0 ∨ (am_nth TM g).snd ≤ x.toNatClampNeg) := by
      rw [Int32.lt_iff_toInt_lt]
      omega
    have y : (f + x).toInt = f.toInt + x.toInt := by
      rw [Int32.toInt_add]
      exact Int.bmod_eq_of_le (by omega) (by omega)
    have y2 : (f + x).toNatClampNeg = f.toNatClampNeg + x.toNatClampNeg := by
      have e2 : (f + x).toNatClampNeg = (f + x).toInt.toNat := rfl
      omega
    have g2 : ¬ (f + x < 0 ∨ 180 ≤ (f + x).toNatClampNeg) := by
      rw [Int32.lt_iff_toInt_lt]
      omega
    have hh := ih m (x + 1) (by omega) (by omega)
    rw [x2] at hh
    rw [show m + (k + 1) + 1 = (m + k + 1) + 1 from rfl, LX8_carries_s, if_neg q, if_pos rfl, if_pos g1, if_pos g2, ← hh, y2]
    congr 1
    funext a b
    rw [cpI_ne hg]
    unfold am_upI am_cpI va_cpy
    by_cases p : a = h
    · rw [if_pos p, if_pos p]
      by_cases r : b = f.toNatClampNeg + x.toNatClampNeg
      · rw [if_pos ⟨p, r⟩, if_pos (by omega), show 0 + (b - f.toNatClampNeg) = x.toNatClampNeg by omega]
      · rw [if_neg (fun z => r z.2)]
        by_cases z : f.toNatClampNeg ≤ b ∧ b < f.toNatClampNeg + x.toNatClampNeg
        · rw [if_pos z, if_pos (by omega)]
        · rw [if_neg z, if_neg (by omega)]
    · rw [if_neg (fun z => p z.1), if_neg p, if_neg p]
theorem back_sim {A : am_mI} {B : am_mJ} {g h : Nat} {n f : Int32} (hg : g ≠ h) (hl : n.toInt ≤ ((am_nth TM g).snd : Int)) (hn : n.toInt ≤ 24) (hf : 0 ≤ f.toInt ∧ f.toInt + n.toInt ≤ 180) : ∀ (k m : Nat) (x : Int32), 0 ≤ x.toInt → x.toInt + k = n.toInt →
    LX8_carries (m + k + 1) (am_cpI A h g f.toNatClampNeg 0 x.toNatClampNeg) B g h n f 1 x = some (f + n, am_cpI A h g f.toNatClampNeg 0 n.toNatClampNeg, B) := by
  intro k
  induction k with
  | zero =>
    intro m x h0 h1
    have e : n = x := Int32.toInt_inj.mp (by omega)
    have q : n ≤ x := by
      rw [Int32.le_iff_toInt_le]
      omega
    rw [LX8_carries_s, if_pos q, e]
  | succ k ih =>
    intro m x h0 h1
    have e : x.toNatClampNeg = x.toInt.toNat := rfl
    have ef : f.toNatClampNeg = f.toInt.toNat := rfl
    have q : ¬ n ≤ x := by
      rw [Int32.le_iff_toInt_le]
      omega
    have x1 : (x + 1).toInt = x.toInt + 1 := i32_succ (n := 24) (by omega) (by omega) (by omega)
    have x2 : (x + 1).toNatClampNeg = x.toNatClampNeg + 1 := by
      have e2 : (x + 1).toNatClampNeg = (x + 1).toInt.toNat := rfl
      omega
    have v0 : (0 : Int32).toInt = 0 := rfl
    have g1 : ¬ (x < 0 ∨ (am_nth TM g).snd ≤ x.toNatClampNeg) := by
      rw [Int32.lt_iff_toInt_lt]
      omega
    have y : (f + x).toInt = f.toInt + x.toInt := by
      rw [Int32.toInt_add]
      exact Int.bmod_eq_of_le (by omega) (by omega)
    have y2 : (f + x).toNatClampNeg = f.toNatClampNeg + x.toNatClampNeg := by
      have e2 : (f + x).toNatClampNeg = (f + x).toInt.toNat := rfl
      omega
    have g2 : ¬ (f + x < 0 ∨ 180 ≤ (f + x).toNatClampNeg) := by
      rw [Int32.lt_iff_toInt_lt]
      omega
    have hh := ih m (x + 1) (by omega) (by omega)
    rw [x2] at hh
    rw [show m + (k + 1) + 1 = (m + k + 1) + 1 from rfl, LX8_carries_s, if_neg q, if_neg (show ¬ (1 : Int32) = 0 by decide), if_pos g2, if_pos g1, ← hh, y2]
    congr 1
    funext a b
    rw [cpI_ne (Ne.symm hg)]
    unfold am_upI am_cpI va_cpy
    by_cases p : a = g
    · rw [if_pos p, if_pos p]
      by_cases r : b = x.toNatClampNeg
      · rw [if_pos ⟨p, r⟩, if_pos (by omega), r, Nat.sub_zero]
      · rw [if_neg (fun z => r z.2)]
        by_cases z : 0 ≤ b ∧ b < 0 + x.toNatClampNeg
        · rw [if_pos z, if_pos (by omega)]
        · rw [if_neg z, if_neg (by omega)]
    · rw [if_neg (fun z => p z.1), if_neg p, if_neg p]
theorem cp_none {A : am_mI} {g h s d : Nat} : am_cpI A g h s d 0 = A := by
  funext a b
  unfold am_cpI va_cpy
  by_cases p : a = h
  · rw [if_pos p, if_neg (by omega), p]
  · rw [if_neg p]
theorem carryAway {A : am_mI} {B : am_mJ} {g h : Nat} {n f r : Int32} (hg : g ≠ h) (hl : n.toInt ≤ ((am_nth TM g).snd : Int)) (h0 : 0 ≤ n.toInt) (hn : n.toInt ≤ 24) (hf : 0 ≤ f.toInt ∧ f.toInt + n.toInt ≤ 180) (er : f + n = r) :
    DX8_carries A B g n h f 0 = some (r, am_cpI A g h 0 f.toNatClampNeg n.toNatClampNeg, B) := by
  have f : am_FU = 1000000 := rfl
  have v0 : (0 : Int32).toInt = 0 := rfl
  have s := away_sim (A := A) (B := B) hg hl hn hf n.toInt.toNat (am_FU - n.toInt.toNat - 1) 0 (by omega) (by omega)
  rw [show am_FU - n.toInt.toNat - 1 + n.toInt.toNat + 1 = am_FU by omega, show (0 : Int32).toNatClampNeg = 0 from rfl, cp_none, er] at s
  exact s
theorem carryBack {A : am_mI} {B : am_mJ} {g h : Nat} {n f r : Int32} (hg : g ≠ h) (hl : n.toInt ≤ ((am_nth TM g).snd : Int)) (h0 : 0 ≤ n.toInt) (hn : n.toInt ≤ 24) (hf : 0 ≤ f.toInt ∧ f.toInt + n.toInt ≤ 180) (er : f + n = r) :
    DX8_carries A B g n h f 1 = some (r, am_cpI A h g f.toNatClampNeg 0 n.toNatClampNeg, B) := by
  have f : am_FU = 1000000 := rfl
  have v0 : (0 : Int32).toInt = 0 := rfl
  have s := back_sim (A := A) (B := B) hg hl hn hf n.toInt.toNat (am_FU - n.toInt.toNat - 1) 0 (by omega) (by omega)
  rw [show am_FU - n.toInt.toNat - 1 + n.toInt.toNat + 1 = am_FU by omega, show (0 : Int32).toNatClampNeg = 0 from rfl, cp_none, er] at s
  exact s
/-- the first j rows carried away to g, carried back from g -/
def am_aw (A : am_mI) (g : Nat) : Nat → am_mI
  | 0 => A
  | j + 1 => am_cpI (am_aw A g j) (2 + j) g 0 (am_of j) (am_ln j)
def am_bk (A : am_mI) (g : Nat) : Nat → am_mI
  | 0 => A
  | j + 1 => am_cpI (am_bk A g j) g (2 + j) (am_of j) 0 (am_ln j)
theorem am_aw.off {A : am_mI} {g k : Nat} (h : k ≠ g) : ∀ j, am_aw A g j k = A k
  | 0 => rfl
  | j + 1 => (cpI_ne h).trans (am_aw.off h j)
theorem am_aw.at {A : am_mI} {g : Nat} (hg : 11 ≤ g) : ∀ j, j ≤ 9 → ∀ q i, q < j → i < am_ln q → am_aw A g j g (am_of q + i) = A (2 + q) i
  | 0, _, q, i, hq, _ => by omega
  | j + 1, hj, q, i, hq, hi => by
    unfold am_aw
    rw [cpI_src]
    by_cases e : q = j
    · subst e
      rw [if_pos (by omega), Nat.add_sub_cancel_left, am_aw.off (by omega)]
    · have d : am_of q + am_ln q ≤ am_of j := by
        unfold am_of am_ln
        split <;> split <;> omega
      rw [if_neg (by omega)]
      exact am_aw.at hg j (by omega) q i (by omega) hi
theorem am_aw.far {A : am_mI} {g : Nat} : ∀ j, j ≤ 9 → ∀ i, 168 ≤ i → am_aw A g j g i = A g i
  | 0, _, i, _ => rfl
  | j + 1, hj, i, hi => by
    unfold am_aw
    have d : am_of j + am_ln j ≤ 168 := by
      unfold am_of am_ln
      split <;> omega
    rw [cpI_src, if_neg (by omega)]
    exact am_aw.far j (by omega) i hi
theorem am_bk.off {A : am_mI} {g k : Nat} : ∀ j, (k < 2 ∨ 2 + j ≤ k) → am_bk A g j k = A k
  | 0, _ => rfl
  | j + 1, h => (cpI_ne (by omega)).trans (am_bk.off j (by omega))
theorem am_bk.at {A : am_mI} {g : Nat} (hg : 11 ≤ g) : ∀ j, j ≤ 9 → ∀ q, q < j → am_bk A g j (2 + q) = fun i => if i < am_ln q then A g (am_of q + i) else A (2 + q) i
  | 0, _, q, hq => by omega
  | j + 1, hj, q, hq => by
    unfold am_bk
    by_cases e : q = j
    · subst e
      funext i
      unfold am_cpI va_cpy
      rw [if_pos rfl, am_bk.off q (by omega), am_bk.off q (by omega)]
      by_cases c : i < am_ln q
      · rw [if_pos (by omega), if_pos c, Nat.sub_zero]
      · rw [if_neg (by omega), if_neg c]
    · rw [cpI_ne (by omega)]
      exact am_bk.at hg j (by omega) q (by omega)
theorem wholeAway (A : am_mI) (B : am_mJ) {g : Nat} (hg : 11 ≤ g) : ∃ W : am_mI, DX8_whole A B g 0 = some (0, W, B) ∧ (∀ k, k ≠ g → W k = A k) ∧ (∀ q i, q < 9 → i < am_ln q → W g (am_of q + i) = A (2 + q) i) ∧ (∀ q, q < 6 → W g (168 + q) = A 0 q) := by
  have e : DX8_whole A B g 0 = some (0, am_upI (am_upI (am_upI (am_upI (am_upI (am_upI (am_aw A g 9) g 168 (A 0 0)) g 169 (A 0 1)) g 170 (A 0 2)) g 171 (A 0 3)) g 172 (A 0 4)) g 173 (A 0 5), B) := by
    unfold DX8_whole
    rw [carryAway (r := 8) (by omega) (by decide) (by decide) (by decide) (by decide) (by decide), Option.bind_some]
    dsimp only
    rw [carryAway (r := 16) (by omega) (by decide) (by decide) (by decide) (by decide) (by decide), Option.bind_some]
    dsimp only
    rw [carryAway (r := 24) (by omega) (by decide) (by decide) (by decide) (by decide) (by decide), Option.bind_some]
    dsimp only
    rw [carryAway (r := 48) (by omega) (by decide) (by decide) (by decide) (by decide) (by decide), Option.bind_some]
    dsimp only
    rw [carryAway (r := 72) (by omega) (by decide) (by decide) (by decide) (by decide) (by decide), Option.bind_some]
    dsimp only
    rw [carryAway (r := 96) (by omega) (by decide) (by decide) (by decide) (by decide) (by decide), Option.bind_some]
    dsimp only
    rw [carryAway (r := 120) (by omega) (by decide) (by decide) (by decide) (by decide) (by decide), Option.bind_some]
    dsimp only
    rw [carryAway (r := 144) (by omega) (by decide) (by decide) (by decide) (by decide) (by decide), Option.bind_some]
    dsimp only
    rw [carryAway (r := 168) (by omega) (by decide) (by decide) (by decide) (by decide) (by decide), Option.bind_some]
    dsimp only
    rw [if_pos rfl, if_pos (by decide), if_pos (by decide), Option.bind_some, if_pos (by decide), if_pos (by decide), Option.bind_some, if_pos (by decide), if_pos (by decide), Option.bind_some]
    have e9 : am_cpI (am_cpI (am_cpI (am_cpI (am_cpI (am_cpI (am_cpI (am_cpI (am_cpI A 2 g 0 0 8) 3 g 0 8 8) 4 g 0 16 8) 5 g 0 24 24) 6 g 0 48 24) 7 g 0 72 24) 8 g 0 96 24) 9 g 0 120 24) 10 g 0 144 24 = am_aw A g 9 := rfl
    have l0 : (0 : Int32).toNatClampNeg = 0 := rfl
    have l8 : (8 : Int32).toNatClampNeg = 8 := rfl
    have l16 : (16 : Int32).toNatClampNeg = 16 := rfl
    have l24 : (24 : Int32).toNatClampNeg = 24 := rfl
    have l48 : (48 : Int32).toNatClampNeg = 48 := rfl
    have l72 : (72 : Int32).toNatClampNeg = 72 := rfl
    have l96 : (96 : Int32).toNatClampNeg = 96 := rfl
    have l120 : (120 : Int32).toNatClampNeg = 120 := rfl
    have l144 : (144 : Int32).toNatClampNeg = 144 := rfl
    have k0 : (168 : Int32).toNatClampNeg = 168 := rfl
    have k1 : ((168 : Int32) + 1).toNatClampNeg = 169 := rfl
    have k2 : ((168 : Int32) + 2).toNatClampNeg = 170 := rfl
    have k3 : ((168 : Int32) + 3).toNatClampNeg = 171 := rfl
    have k4 : ((168 : Int32) + 4).toNatClampNeg = 172 := rfl
    have k5 : ((168 : Int32) + 5).toNatClampNeg = 173 := rfl
    have u : ∀ (M : am_mI) (k : Nat) (v : Int32), am_upI M g k v 0 = M 0 := fun M k v => am_upI_ne (by omega)
    rw [l0, l8, l16, l24, l48, l72, l96, l120, l144, e9, k0, k1, k2, k3, k4, k5]
    simp only [u, am_aw.off (show (0 : Nat) ≠ g by omega)]
  refine ⟨_, e, fun k hk => ?_, fun q i hq hi => ?_, fun q hq => ?_⟩
  · rw [am_upI_ne hk, am_upI_ne hk, am_upI_ne hk, am_upI_ne hk, am_upI_ne hk, am_upI_ne hk, am_aw.off hk]
  · have d : am_of q + am_ln q ≤ 168 := by
      unfold am_of am_ln
      split <;> omega
    rw [am_upI_no (by omega), am_upI_no (by omega), am_upI_no (by omega), am_upI_no (by omega), am_upI_no (by omega), am_upI_no (by omega)]
    exact am_aw.at hg 9 (Nat.le_refl 9) q i hq hi
  · have e6 : q = 0 ∨ q = 1 ∨ q = 2 ∨ q = 3 ∨ q = 4 ∨ q = 5 := by omega
    rcases e6 with rfl | rfl | rfl | rfl | rfl | rfl
    · rw [am_upI_no (by omega), am_upI_no (by omega), am_upI_no (by omega), am_upI_no (by omega), am_upI_no (by omega), am_upI_yes]
    · rw [am_upI_no (by omega), am_upI_no (by omega), am_upI_no (by omega), am_upI_no (by omega), am_upI_yes]
    · rw [am_upI_no (by omega), am_upI_no (by omega), am_upI_no (by omega), am_upI_yes]
    · rw [am_upI_no (by omega), am_upI_no (by omega), am_upI_yes]
    · rw [am_upI_no (by omega), am_upI_yes]
    · rw [am_upI_yes]
theorem wholeBack (A : am_mI) (B : am_mJ) {g : Nat} (hg : 11 ≤ g) : ∃ W : am_mI, DX8_whole A B g 1 = some (0, W, B) ∧ (∀ k, 11 ≤ k ∨ k = 1 → W k = A k) ∧ (∀ q, q < 9 → W (2 + q) = fun i => if i < am_ln q then A g (am_of q + i) else A (2 + q) i) ∧ (∀ q, q < 6 → W 0 q = A g (168 + q)) ∧ (∀ q, 6 ≤ q → W 0 q = A 0 q) := by
  have e : DX8_whole A B g 1 = some (0, am_upI (am_upI (am_upI (am_upI (am_upI (am_upI (am_bk A g 9) 0 0 (A g 168)) 0 1 (A g 169)) 0 2 (A g 170)) 0 3 (A g 171)) 0 4 (A g 172)) 0 5 (A g 173), B) := by
    unfold DX8_whole
    rw [carryBack (r := 8) (by omega) (by decide) (by decide) (by decide) (by decide) (by decide), Option.bind_some]
    dsimp only
    rw [carryBack (r := 16) (by omega) (by decide) (by decide) (by decide) (by decide) (by decide), Option.bind_some]
    dsimp only
    rw [carryBack (r := 24) (by omega) (by decide) (by decide) (by decide) (by decide) (by decide), Option.bind_some]
    dsimp only
    rw [carryBack (r := 48) (by omega) (by decide) (by decide) (by decide) (by decide) (by decide), Option.bind_some]
    dsimp only
    rw [carryBack (r := 72) (by omega) (by decide) (by decide) (by decide) (by decide) (by decide), Option.bind_some]
    dsimp only
    rw [carryBack (r := 96) (by omega) (by decide) (by decide) (by decide) (by decide) (by decide), Option.bind_some]
    dsimp only
    rw [carryBack (r := 120) (by omega) (by decide) (by decide) (by decide) (by decide) (by decide), Option.bind_some]
    dsimp only
    rw [carryBack (r := 144) (by omega) (by decide) (by decide) (by decide) (by decide) (by decide), Option.bind_some]
    dsimp only
    rw [carryBack (r := 168) (by omega) (by decide) (by decide) (by decide) (by decide) (by decide), Option.bind_some]
    dsimp only
    rw [if_neg (show ¬ (1 : Int32) = 0 by decide), if_pos (by decide), if_pos (by decide), Option.bind_some, if_pos (by decide), if_pos (by decide), Option.bind_some, if_pos (by decide), if_pos (by decide), Option.bind_some]
    have e9 : am_cpI (am_cpI (am_cpI (am_cpI (am_cpI (am_cpI (am_cpI (am_cpI (am_cpI A g 2 0 0 8) g 3 8 0 8) g 4 16 0 8) g 5 24 0 24) g 6 48 0 24) g 7 72 0 24) g 8 96 0 24) g 9 120 0 24) g 10 144 0 24 = am_bk A g 9 := rfl
    have l0 : (0 : Int32).toNatClampNeg = 0 := rfl
    have l8 : (8 : Int32).toNatClampNeg = 8 := rfl
    have l16 : (16 : Int32).toNatClampNeg = 16 := rfl
    have l24 : (24 : Int32).toNatClampNeg = 24 := rfl
    have l48 : (48 : Int32).toNatClampNeg = 48 := rfl
    have l72 : (72 : Int32).toNatClampNeg = 72 := rfl
    have l96 : (96 : Int32).toNatClampNeg = 96 := rfl
    have l120 : (120 : Int32).toNatClampNeg = 120 := rfl
    have l144 : (144 : Int32).toNatClampNeg = 144 := rfl
    have k0 : (168 : Int32).toNatClampNeg = 168 := rfl
    have k1 : ((168 : Int32) + 1).toNatClampNeg = 169 := rfl
    have k2 : ((168 : Int32) + 2).toNatClampNeg = 170 := rfl
    have k3 : ((168 : Int32) + 3).toNatClampNeg = 171 := rfl
    have k4 : ((168 : Int32) + 4).toNatClampNeg = 172 := rfl
    have k5 : ((168 : Int32) + 5).toNatClampNeg = 173 := rfl
    have u : ∀ (M : am_mI) (k : Nat) (v : Int32), am_upI M 0 k v g = M g := fun M k v => am_upI_ne (by omega)
    rw [l8, l16, l24, l48, l72, l96, l120, l144, l0, e9, k0, k1, k2, k3, k4, k5]
    simp only [u, am_bk.off (k := g) 9 (by omega)]
  refine ⟨_, e, fun k hk => ?_, fun q hq => ?_, fun q hq => ?_, fun q hq => ?_⟩
  · have z : k ≠ 0 := by omega
    rw [am_upI_ne z, am_upI_ne z, am_upI_ne z, am_upI_ne z, am_upI_ne z, am_upI_ne z, am_bk.off 9 (by omega)]
  · have z : 2 + q ≠ 0 := by omega
    rw [am_upI_ne z, am_upI_ne z, am_upI_ne z, am_upI_ne z, am_upI_ne z, am_upI_ne z]
    exact am_bk.at hg 9 (Nat.le_refl 9) q hq
  · have e6 : q = 0 ∨ q = 1 ∨ q = 2 ∨ q = 3 ∨ q = 4 ∨ q = 5 := by omega
    rcases e6 with rfl | rfl | rfl | rfl | rfl | rfl
    · rw [am_upI_no (by omega), am_upI_no (by omega), am_upI_no (by omega), am_upI_no (by omega), am_upI_no (by omega), am_upI_yes]
    · rw [am_upI_no (by omega), am_upI_no (by omega), am_upI_no (by omega), am_upI_no (by omega), am_upI_yes]
    · rw [am_upI_no (by omega), am_upI_no (by omega), am_upI_no (by omega), am_upI_yes]
    · rw [am_upI_no (by omega), am_upI_no (by omega), am_upI_yes]
    · rw [am_upI_no (by omega), am_upI_yes]
    · rw [am_upI_yes]
  · rw [am_upI_no (by omega), am_upI_no (by omega), am_upI_no (by omega), am_upI_no (by omega), am_upI_no (by omega), am_upI_no (by omega), am_bk.off 9 (by omega)]
theorem kr_of {A W : am_mI} {g : Nat} (hw : ∀ q i, q < 9 → i < am_ln q → W 20 (am_of q + i) = A (2 + q) i) : ∀ q i, q < 9 → i < am_ln q → am_kr W q i = am_mr A q i := by
  intro q i hq hi
  have e : (if q < 3 then 8 * q else 24 * q - 48) = am_of q := rfl
  unfold am_kr am_mr
  rw [e, hw q i hq hi, Nat.add_comm 2 q]
theorem am_Rg.cong {t : Nat} {r r' : Nat → Nat → Int32} {n n' : Nat → Int32} (h : am_Rg t r n) (e1 : ∀ q i, q < 9 → i < am_ln q → r' q i = r q i) (e2 : ∀ q, q < 5 → n' q = n q) : am_Rg t r' n' := by
  have l : ∀ q, q < 3 → am_ln q = 8 := fun q hq => if_pos hq
  have l2 : ∀ q, 3 ≤ q → am_ln q = 24 := fun q hq => if_neg (by omega)
  unfold am_Rg at h ⊢
  rw [e2 0 (by decide), e2 1 (by decide), e2 2 (by decide), e2 3 (by decide), e2 4 (by decide)]
  refine ⟨h.1, h.2.1, h.2.2.1, h.2.2.2.1, h.2.2.2.2.1, fun i hi => ?_, fun i hi => ?_, fun i hi => ?_⟩
  · rw [e1 0 i (by decide) hi, e1 1 i (by decide) hi, e1 2 i (by decide) hi]
    exact h.2.2.2.2.2.1 i hi
  · rw [e1 3 i (by decide) hi, e1 4 i (by decide) hi, e1 5 i (by decide) hi]
    exact h.2.2.2.2.2.2.1 i hi
  · rw [e1 6 i (by decide) hi, e1 7 i (by decide) hi, e1 8 i (by decide) hi]
    exact h.2.2.2.2.2.2.2 i hi
theorem op_image {t : Nat} {I : am_mI} {J : am_mJ} {A : am_mI} {B : am_mJ} (h : am_Iv t I J A B) : am_Tw (t + 20000) (DX7_image I J) (DX8_image A B) := by
  obtain ⟨W, w1, w2, w3, w4⟩ := wholeAway (am_upI A 0 38 1) B (g := 20) (by decide)
  unfold DX7_image DX8_image
  rw [likeAs I J (by decide), Option.bind_some, if_pos (Or.inr rfl), if_pos (Or.inr rfl), w1, Option.bind_some]
  dsimp only
  have eI : ∀ k, (1 ≤ k ∧ k < 22) ∨ 32 ≤ k → am_upI (am_bl I 22 2) 0 4 1 k = I k := fun k hk => (am_upI_ne (by omega)).trans (bl_off (by omega))
  have eI0 : ∀ q, q ≠ 4 → am_upI (am_bl I 22 2) 0 4 1 0 q = I 0 q := fun q hq => (am_upI_no hq).trans (congrFun (bl_off (by decide)) q)
  have eA : ∀ k, k ≠ 0 → k ≠ 20 → W k = A k := fun k h0 h1 => (w2 k h1).trans (am_upI_ne h0)
  have eA0 : ∀ q, q ≠ 38 → W 0 q = A 0 q := fun q hq => (congrFun (w2 0 (by decide)) q).trans (am_upI_no hq)
  have v3 : DX1_stuffCount (am_upI (am_bl I 22 2) 0 4 1) 22 = W 0 0 := by
    rw [eA0 0 (by decide)]
    exact h.bd.n0
  rw [v3]
  have b : ∀ q, 1 ≤ q ∧ q ≤ 3 → ∀ i, i < 8 → am_upI (am_bl I 22 2) 0 4 1 (22 + q) i = I (2 + q) i := by
    intro q hq i hi
    rw [am_upI_ne (by omega)]
    unfold am_bl
    rw [if_neg (by omega), if_pos (by omega), if_pos hi, Nat.add_sub_cancel_left]
  have b2 : ∀ q, 4 ≤ q ∧ q ≤ 9 → ∀ i, i < 24 → am_upI (am_bl I 22 2) 0 4 1 (22 + q) i = I (2 + q) i := by
    intro q hq i hi
    rw [am_upI_ne (by omega)]
    unfold am_bl
    rw [if_neg (by omega), if_neg (by omega), if_pos (by omega), if_pos hi, Nat.add_sub_cancel_left]
  have b3 : ∀ k, (k = 3 ∨ k = 10 ∨ k = 11 ∨ k = 12 ∨ k = 13 ∨ k = 14) → am_upI (am_bl I 22 2) 0 4 1 22 k = I 2 k := by
    intro k hk
    rw [am_upI_ne (by decide)]
    unfold am_bl
    rw [if_pos rfl, if_pos hk]
  have w5 : ∀ q i, q < 9 → i < am_ln q → W 20 (am_of q + i) = A (2 + q) i := fun q i hq hi => (w3 q i hq hi).trans (congrFun (am_upI_ne (by omega)) i)
  have w6 : ∀ q, q < 6 → W 20 (168 + q) = A 0 q := fun q hq => (w4 q hq).trans (am_upI_no (by omega))
  have o38 : W 0 38 = 1 := (congrFun (w2 0 (by decide)) 38).trans am_upI_yes
  have x4 : am_upI (am_bl I 22 2) 0 4 1 0 4 = 1 := am_upI_yes
  generalize am_upI (am_bl I 22 2) 0 4 1 = X at *
  refine .mk1 ⟨?_, ?_, ?_, ?_, ?_, ?_, ?_, ?_, (eA 17 (by decide) (by decide)).trans h.wd, ?_, ?_⟩
  · refine ⟨((eI 3 (by decide)).trans h.bd.r0).trans (eA 2 (by decide) (by decide)).symm, ((eI 4 (by decide)).trans h.bd.r1).trans (eA 3 (by decide) (by decide)).symm, ((eI 5 (by decide)).trans h.bd.r2).trans (eA 4 (by decide) (by decide)).symm, ((eI 6 (by decide)).trans h.bd.r3).trans (eA 5 (by decide) (by decide)).symm, ((eI 7 (by decide)).trans h.bd.r4).trans (eA 6 (by decide) (by decide)).symm, ((eI 8 (by decide)).trans h.bd.r5).trans (eA 7 (by decide) (by decide)).symm, ((eI 9 (by decide)).trans h.bd.r6).trans (eA 8 (by decide) (by decide)).symm, ((eI 10 (by decide)).trans h.bd.r7).trans (eA 9 (by decide) (by decide)).symm, ((eI 11 (by decide)).trans h.bd.r8).trans (eA 10 (by decide) (by decide)).symm, ?_⟩
    have := h.bd.2.2.2.2.2.2.2.2.2
    unfold am_mn at this ⊢
    rw [eI 2 (by decide), eA0 0 (by decide), eA0 1 (by decide), eA0 2 (by decide), eA0 3 (by decide), eA0 4 (by decide), eA0 5 (by decide)]
    exact this
  · have := h.rf
    unfold am_Rf at this ⊢
    rw [eI 40 (by decide), eA 1 (by decide) (by decide)]
    exact this
  · rw [eI0 6 (by decide), eA0 6 (by decide)]
    exact h.ft
  · intro s hs
    have := h.sh s hs
    unfold am_Sh at this ⊢
    rw [eI (41 + 2 * s) (by omega), eA 11 (by decide) (by decide), eA 12 (by decide) (by decide), eA 13 (by decide) (by decide), eA 14 (by decide) (by decide)]
    exact this
  · refine ⟨x4.trans o38.symm, Or.inr o38, fun _ => ⟨fun i hi => ⟨?_, ?_, ?_⟩, fun i hi => ⟨?_, ?_, ?_, ?_, ?_, ?_⟩, ?_, ?_, ?_, ?_, ?_, ?_⟩⟩
    · rw [b 1 (by decide) i hi, show I (2 + 1) = A 2 from h.bd.r0]
      rw [← w5 0 i (by decide) hi, show am_of 0 + i = i from Nat.zero_add i]
    · rw [b 2 (by decide) i hi, show I (2 + 2) = A 3 from h.bd.r1]
      exact (w5 1 i (by decide) hi).symm
    · rw [b 3 (by decide) i hi, show I (2 + 3) = A 4 from h.bd.r2]
      exact (w5 2 i (by decide) hi).symm
    · rw [b2 4 (by decide) i hi, show I (2 + 4) = A 5 from h.bd.r3]
      exact (w5 3 i (by decide) hi).symm
    · rw [b2 5 (by decide) i hi, show I (2 + 5) = A 6 from h.bd.r4]
      exact (w5 4 i (by decide) hi).symm
    · rw [b2 6 (by decide) i hi, show I (2 + 6) = A 7 from h.bd.r5]
      exact (w5 5 i (by decide) hi).symm
    · rw [b2 7 (by decide) i hi, show I (2 + 7) = A 8 from h.bd.r6]
      exact (w5 6 i (by decide) hi).symm
    · rw [b2 8 (by decide) i hi, show I (2 + 8) = A 9 from h.bd.r7]
      exact (w5 7 i (by decide) hi).symm
    · rw [b2 9 (by decide) i hi, show I (2 + 9) = A 10 from h.bd.r8]
      exact (w5 8 i (by decide) hi).symm
    · rw [b3 3 (by decide), show I 2 3 = A 0 0 from h.bd.n0]
      exact (w6 0 (by decide)).symm
    · rw [b3 10 (by decide), show I 2 10 = A 0 1 from h.bd.n1]
      exact (w6 1 (by decide)).symm
    · rw [b3 11 (by decide), show I 2 11 = A 0 2 from h.bd.n2]
      exact (w6 2 (by decide)).symm
    · rw [b3 12 (by decide), show I 2 12 = A 0 3 from h.bd.n3]
      exact (w6 3 (by decide)).symm
    · rw [b3 13 (by decide), show I 2 13 = A 0 4 from h.bd.n4]
      exact (w6 4 (by decide)).symm
    · rw [b3 14 (by decide), show I 2 14 = A 0 5 from h.bd.n5]
      exact (w6 5 (by decide)).symm
  · have := h.ac
    unfold am_Ac at this ⊢
    rw [eI 38 (by decide), eI 39 (by decide), eA0 37 (by decide), eA 25 (by decide) (by decide)]
    exact this
  · refine h.rg.cong (fun q i hq hi => ?_) (fun q hq => eA0 q (by omega))
    unfold am_mr
    rw [eA (q + 2) (by omega) (by omega)]
  · intro _
    exact h.rg.cong (kr_of (g := 20) w5) (fun q hq => w6 q (by omega))
  · have := h.st
    unfold am_St at this ⊢
    rw [eA0 0 (by decide), eA 11 (by decide) (by decide), eA 14 (by decide) (by decide)]
    exact this
  · have := h.ot
    unfold am_Ot at this ⊢
    rw [eI 13 (by decide), eI 14 (by decide), eI 15 (by decide), eI 16 (by decide), eI 17 (by decide), eI 18 (by decide), eI 19 (by decide), eI 20 (by decide), eI 21 (by decide), eA 2 (by decide) (by decide), eA 3 (by decide) (by decide), eA 4 (by decide) (by decide), eA 5 (by decide) (by decide), eA 6 (by decide) (by decide), eA 7 (by decide) (by decide), eA 8 (by decide) (by decide), eA 9 (by decide) (by decide), eA 10 (by decide) (by decide)]
    exact this
theorem shelf_no {x : Int32} (h0 : 0 ≤ x.toInt) (h1 : x.toInt < 8) : DX7_shelfAt x = 41 + 2 * x.toNatClampNeg := by
  rcases shelf_in x with ⟨a, b⟩ | ⟨s, hs, e1, e2, a, b, c⟩
  · exfalso
    unfold DX8_isShelf at b
    rw [if_neg (show ¬ x < 0 by ((try simp only [Int32.lt_iff_toInt_lt, Int32.le_iff_toInt_le, Int32.reduceToInt, ← Int32.toNat_toInt, ← Int32.toInt_inj] at *) <;> omega)), if_neg (show ¬ (8 : Int32) ≤ x by ((try simp only [Int32.lt_iff_toInt_lt, Int32.le_iff_toInt_le, Int32.reduceToInt, ← Int32.toNat_toInt, ← Int32.toInt_inj] at *) <;> omega))] at b
    exact absurd b (by decide)
  · rw [a, e1]
/-- a cleared shelf -/
def am_cl (f : Nat → Int32) : Nat → Int32 := fun b => if b = 1 ∨ b = 3 then 0 else f b
theorem restore_sim {J : am_mJ} {B : am_mJ} : ∀ (k m m2 : Nat) (x : Int32) (X A : am_mI), 0 ≤ x.toInt → x.toInt + k = 8 → k < m → k < m2 → X 2 3 = A 0 0 → (0 ≤ (A 0 0).toInt ∧ (A 0 0).toInt ≤ 8) →
    (∀ s, s < 8 → X (41 + 2 * s) 1 = A 11 s ∧ (A 11 s = 2 → X (41 + 2 * s) 4 = A 14 s ∧ 0 ≤ (A 14 s).toInt ∧ (A 14 s).toInt < 8)) →
    ∃ (X1 A1 : am_mI), LX7_restore m X J x = some (A 0 0, X1, J) ∧ LX8_restore m2 A B x = some (A 0 0, A1, B) ∧
      (∀ a, (∀ s, s < 8 → a ≠ 41 + 2 * s) → X1 a = X a) ∧ (∀ a, a ≠ 11 → A1 a = A a) ∧
      (∀ s, s < 8 → (s < x.toNatClampNeg → X1 (41 + 2 * s) = X (41 + 2 * s) ∧ A1 11 s = A 11 s) ∧ (x.toNatClampNeg ≤ s → (A 11 s = 2 ∧ ¬ A 14 s < A 0 0 → X1 (41 + 2 * s) = am_cl (X (41 + 2 * s)) ∧ A1 11 s = 0) ∧ (¬ (A 11 s = 2 ∧ ¬ A 14 s < A 0 0) → X1 (41 + 2 * s) = X (41 + 2 * s) ∧ A1 11 s = A 11 s))) := by
  intro k
  induction k with
  | zero =>
    intro m m2 x X A h0 h1 hm hm2 e hN hS
    obtain ⟨m, rfl⟩ : ∃ j, m = j + 1 := ⟨m - 1, by omega⟩
    obtain ⟨m2, rfl⟩ : ∃ j, m2 = j + 1 := ⟨m2 - 1, by omega⟩
    have v8 : (8 : Int32).toInt = 8 := rfl
    have q : (8 : Int32) ≤ x := by
      rw [Int32.le_iff_toInt_le]
      omega
    have ex : x.toNatClampNeg = x.toInt.toNat := rfl
    unfold LX7_restore LX8_restore DX1_stuffCount
    rw [if_pos q, if_pos q, e]
    exact ⟨X, A, rfl, rfl, fun _ _ => rfl, fun _ _ => rfl, fun s hs => ⟨fun _ => ⟨rfl, rfl⟩, fun hx => absurd hx (by omega)⟩⟩
  | succ k ih =>
    intro m m2 x X A h0 h1 hm hm2 e hN hS
    obtain ⟨m, rfl⟩ : ∃ j, m = j + 1 := ⟨m - 1, by omega⟩
    obtain ⟨m2, rfl⟩ : ∃ j, m2 = j + 1 := ⟨m2 - 1, by omega⟩
    have v8 : (8 : Int32).toInt = 8 := rfl
    have v0 : (0 : Int32).toInt = 0 := rfl
    have q : ¬ (8 : Int32) ≤ x := by
      rw [Int32.le_iff_toInt_le]
      omega
    have ex : x.toNatClampNeg = x.toInt.toNat := rfl
    have x1 : (x + 1).toInt = x.toInt + 1 := i32_succ (n := 24) (by omega) (by omega) (by omega)
    have ex1 : (x + 1).toNatClampNeg = (x + 1).toInt.toNat := rfl
    have g : ¬ (x < 0 ∨ 8 ≤ x.toNatClampNeg) := by
      rw [Int32.lt_iff_toInt_lt]
      omega
    have sx := shelf_no h0 (show x.toInt < 8 by omega)
    obtain ⟨s1, s2⟩ := hS x.toNatClampNeg (by omega)
    have skip : ¬ (A 11 x.toNatClampNeg = 2 ∧ ¬ A 14 x.toNatClampNeg < A 0 0) → ∃ (X1 A1 : am_mI), LX7_restore m X J (x + 1) = some (A 0 0, X1, J) ∧ LX8_restore m2 A B (x + 1) = some (A 0 0, A1, B) ∧
        (∀ a, (∀ s, s < 8 → a ≠ 41 + 2 * s) → X1 a = X a) ∧ (∀ a, a ≠ 11 → A1 a = A a) ∧
        (∀ s, s < 8 → (s < x.toNatClampNeg → X1 (41 + 2 * s) = X (41 + 2 * s) ∧ A1 11 s = A 11 s) ∧ (x.toNatClampNeg ≤ s → (A 11 s = 2 ∧ ¬ A 14 s < A 0 0 → X1 (41 + 2 * s) = am_cl (X (41 + 2 * s)) ∧ A1 11 s = 0) ∧ (¬ (A 11 s = 2 ∧ ¬ A 14 s < A 0 0) → X1 (41 + 2 * s) = X (41 + 2 * s) ∧ A1 11 s = A 11 s))) := by
      intro ng
      obtain ⟨X1, A1, r1, r2, r3, r4, r5⟩ := ih m m2 (x + 1) X A (by omega) (by omega) (by omega) (by omega) e hN hS
      refine ⟨X1, A1, r1, r2, r3, r4, fun s hs => ⟨fun hx => (r5 s hs).1 (by omega), fun hx => ?_⟩⟩
      by_cases p : s = x.toNatClampNeg
      · subst p
        exact ⟨fun f => absurd f ng, fun _ => (r5 _ hs).1 (by omega)⟩
      · exact (r5 s hs).2 (by omega)
    unfold LX7_restore LX8_restore DX3_stuffHeld DX3_holdsStuff
    rw [if_neg q, if_neg q, sx, if_neg (by omega), if_pos g, s1]
    simp only [if_pos g]
    by_cases c : A 11 x.toNatClampNeg = 2
    · obtain ⟨t1, t2, t3⟩ := s2 c
      have z1 : ¬ (1 : Int32) = 0 := by decide
      rw [if_neg (not_not_intro c), if_neg (not_not_intro c), if_neg z1, if_neg z1, t1, stuffO (A := A) e hN]
      by_cases d : A 14 x.toNatClampNeg < A 0 0
      · have st : ¬ DX8_isStuff A (A 14 x.toNatClampNeg) = 0 := mstuff t2 (by rw [Int32.lt_iff_toInt_lt] at d; exact d)
        rw [if_pos st, if_pos d]
        exact skip (fun f => f.2 d)
      · have st : ¬ ¬ DX8_isStuff A (A 14 x.toNatClampNeg) = 0 := fun f => d (by rw [Int32.lt_iff_toInt_lt]; exact (stuff_rg f).2)
        rw [if_neg st, if_neg d]
        unfold DX3_takeNothing
        rw [Option.bind_some]
        dsimp only
        obtain ⟨X1, A1, r1, r2, r3, r4, r5⟩ := ih m m2 (x + 1) (am_upI (am_upI X (41 + 2 * x.toNatClampNeg) 1 0) (41 + 2 * x.toNatClampNeg) 3 0) (am_upI A 11 x.toNatClampNeg 0) (by omega) (by omega) (by omega) (by omega) (by
            rw [am_upI_ne (by omega), am_upI_ne (by omega), am_upI_ne (by omega)]
            exact e) (by
            rw [am_upI_ne (by omega)]
            exact hN) (by
            intro s hs
            by_cases p : s = x.toNatClampNeg
            · subst p
              rw [am_upI_no (by decide), am_upI_yes, am_upI_yes]
              exact ⟨rfl, fun f => absurd f (by decide)⟩
            · rw [am_upI_ne (a := 41 + 2 * s) (by omega), am_upI_ne (a := 41 + 2 * s) (by omega), am_upI_no p, am_upI_ne (a := 14) (by decide)]
              exact hS s hs)
        have n0 : am_upI A 11 x.toNatClampNeg 0 0 0 = A 0 0 := congrFun (am_upI_ne (by decide)) 0
        have n14 : am_upI A 11 x.toNatClampNeg 0 14 = A 14 := am_upI_ne (by decide)
        rw [n0, n14] at r5
        rw [n0] at r1 r2
        refine ⟨X1, A1, r1, r2, fun a ha => ?_, fun a ha => (r4 a ha).trans (am_upI_ne ha), fun s hs => ⟨fun hx => ?_, fun hx => ?_⟩⟩
        · have na := ha x.toNatClampNeg (by omega)
          rw [r3 a ha, am_upI_ne na, am_upI_ne na]
        · obtain ⟨y1, y2⟩ := (r5 s hs).1 (by omega)
          rw [y1, y2, am_upI_ne (a := 41 + 2 * s) (by omega), am_upI_ne (a := 41 + 2 * s) (by omega), am_upI_no (by omega)]
          exact ⟨rfl, rfl⟩
        · by_cases p : s = x.toNatClampNeg
          · subst p
            obtain ⟨y1, y2⟩ := (r5 x.toNatClampNeg hs).1 (by omega)
            refine ⟨fun _ => ⟨?_, by rw [y2, am_upI_yes]⟩, fun f => absurd ⟨c, d⟩ f⟩
            rw [y1]
            funext b
            unfold am_cl
            rw [am_upI_at]
            dsimp only
            by_cases b3 : b = 3
            · rw [if_pos b3, if_pos (Or.inr b3)]
            · rw [if_neg b3, am_upI_at]
              dsimp only
              by_cases b1 : b = 1
              · rw [if_pos b1, if_pos (Or.inl b1)]
              · rw [if_neg b1, if_neg (by omega)]
          · have y := (r5 s hs).2 (by omega)
            rw [am_upI_ne (a := 41 + 2 * s) (by omega), am_upI_ne (a := 41 + 2 * s) (by omega), am_upI_no p] at y
            exact y
    · rw [if_pos c, if_pos c, if_pos (show (0 : Int32) = 0 from rfl)]
      exact skip (fun f => c f.1)
theorem op_restore {t : Nat} {I : am_mI} {J : am_mJ} {A : am_mI} {B : am_mJ} (h : am_Iv t I J A B) : am_Tw (t + 20000) (DX7_restore I J) (DX8_restore A B) := by
  unfold DX7_restore DX8_restore
  obtain ⟨m1, m2, m3⟩ := h.im
  rw [m1]
  by_cases c : ¬ A 0 38 = 0
  · have c1 : A 0 38 = 1 := by
      rcases m2 with q | q
      · exact absurd q c
      · exact q
    obtain ⟨k1, k2, k3, k4, k5, k6, k7, k8⟩ := m3 c1
    have kg := h.kg c1
    obtain ⟨W, w1, w2, w3, w4, w5⟩ := wholeBack A B (g := 20) (by decide)
    have bl3 : ∀ q, 1 ≤ q ∧ q ≤ 3 → am_bl I 2 22 (2 + q) = fun i => if i < 8 then I (22 + q) i else I (2 + q) i := by
      intro q hq
      funext i
      unfold am_bl
      rw [if_neg (by omega), if_pos (by omega), Nat.add_sub_cancel_left]
    have bl9 : ∀ q, 4 ≤ q ∧ q ≤ 9 → am_bl I 2 22 (2 + q) = fun i => if i < 24 then I (22 + q) i else I (2 + q) i := by
      intro q hq
      funext i
      unfold am_bl
      rw [if_neg (by omega), if_neg (by omega), if_pos (by omega), Nat.add_sub_cancel_left]
    have bln : ∀ k, (k = 3 ∨ k = 10 ∨ k = 11 ∨ k = 12 ∨ k = 13 ∨ k = 14) → am_bl I 2 22 2 k = I 22 k := by
      intro k hk
      unfold am_bl
      rw [if_pos rfl, if_pos hk]
    have r : ∀ q, q < 9 → am_bl I 2 22 (2 + (q + 1)) = W (2 + q) := by
      intro q hq
      rw [w3 q hq]
      have e9 : q = 0 ∨ q = 1 ∨ q = 2 ∨ q = 3 ∨ q = 4 ∨ q = 5 ∨ q = 6 ∨ q = 7 ∨ q = 8 := by omega
      rcases e9 with rfl | rfl | rfl | rfl | rfl | rfl | rfl | rfl | rfl
      · rw [bl3 1 (by decide)]
        funext i
        by_cases c : i < 8
        · rw [if_pos c, if_pos (show i < am_ln 0 from c)]
          have e : I 23 i = A 20 (am_of 0 + i) := (k1 i c).1.trans (by rw [show am_of 0 + i = i from Nat.zero_add i])
          exact e
        · rw [if_neg c, if_neg (show ¬ i < am_ln 0 from c)]
          exact congrFun h.bd.r0 i
      · rw [bl3 2 (by decide)]
        funext i
        by_cases c : i < 8
        · rw [if_pos c, if_pos (show i < am_ln 1 from c)]
          have e : I 24 i = A 20 (am_of 1 + i) := (k1 i c).2.1
          exact e
        · rw [if_neg c, if_neg (show ¬ i < am_ln 1 from c)]
          exact congrFun h.bd.r1 i
      · rw [bl3 3 (by decide)]
        funext i
        by_cases c : i < 8
        · rw [if_pos c, if_pos (show i < am_ln 2 from c)]
          have e : I 25 i = A 20 (am_of 2 + i) := (k1 i c).2.2
          exact e
        · rw [if_neg c, if_neg (show ¬ i < am_ln 2 from c)]
          exact congrFun h.bd.r2 i
      · rw [bl9 4 (by decide)]
        funext i
        by_cases c : i < 24
        · rw [if_pos c, if_pos (show i < am_ln 3 from c)]
          have e : I 26 i = A 20 (am_of 3 + i) := (k2 i c).1
          exact e
        · rw [if_neg c, if_neg (show ¬ i < am_ln 3 from c)]
          exact congrFun h.bd.r3 i
      · rw [bl9 5 (by decide)]
        funext i
        by_cases c : i < 24
        · rw [if_pos c, if_pos (show i < am_ln 4 from c)]
          have e : I 27 i = A 20 (am_of 4 + i) := (k2 i c).2.1
          exact e
        · rw [if_neg c, if_neg (show ¬ i < am_ln 4 from c)]
          exact congrFun h.bd.r4 i
      · rw [bl9 6 (by decide)]
        funext i
        by_cases c : i < 24
        · rw [if_pos c, if_pos (show i < am_ln 5 from c)]
          have e : I 28 i = A 20 (am_of 5 + i) := (k2 i c).2.2.1
          exact e
        · rw [if_neg c, if_neg (show ¬ i < am_ln 5 from c)]
          exact congrFun h.bd.r5 i
      · rw [bl9 7 (by decide)]
        funext i
        by_cases c : i < 24
        · rw [if_pos c, if_pos (show i < am_ln 6 from c)]
          have e : I 29 i = A 20 (am_of 6 + i) := (k2 i c).2.2.2.1
          exact e
        · rw [if_neg c, if_neg (show ¬ i < am_ln 6 from c)]
          exact congrFun h.bd.r6 i
      · rw [bl9 8 (by decide)]
        funext i
        by_cases c : i < 24
        · rw [if_pos c, if_pos (show i < am_ln 7 from c)]
          have e : I 30 i = A 20 (am_of 7 + i) := (k2 i c).2.2.2.2.1
          exact e
        · rw [if_neg c, if_neg (show ¬ i < am_ln 7 from c)]
          exact congrFun h.bd.r7 i
      · rw [bl9 9 (by decide)]
        funext i
        by_cases c : i < 24
        · rw [if_pos c, if_pos (show i < am_ln 8 from c)]
          have e : I 31 i = A 20 (am_of 8 + i) := (k2 i c).2.2.2.2.2
          exact e
        · rw [if_neg c, if_neg (show ¬ i < am_ln 8 from c)]
          exact congrFun h.bd.r8 i
    have rn : ∀ q k, (q = 0 ∧ k = 3 ∨ q = 1 ∧ k = 10 ∨ q = 2 ∧ k = 11 ∨ q = 3 ∧ k = 12 ∨ q = 4 ∧ k = 13 ∨ q = 5 ∧ k = 14) → am_bl I 2 22 2 k = W 0 q := by
      intro q k hk
      rw [bln k (by omega), w4 q (by omega)]
      rcases hk with ⟨rfl, rfl⟩ | ⟨rfl, rfl⟩ | ⟨rfl, rfl⟩ | ⟨rfl, rfl⟩ | ⟨rfl, rfl⟩ | ⟨rfl, rfl⟩
      · exact k3
      · exact k4
      · exact k5
      · exact k6
      · exact k7
      · exact k8
    have blo : ∀ a, a < 2 ∨ 12 ≤ a → am_bl I 2 22 a = I a := fun a ha => bl_off (by omega)
    have wN : 0 ≤ (W 0 0).toInt ∧ (W 0 0).toInt ≤ 8 := by
      rw [w4 0 (by decide)]
      exact kg.1
    have wg : am_Rg t (am_mr W) (am_mn W) := by
      refine kg.cong (fun q i hq hi => ?_) (fun q hq => w4 q (by omega))
      have e := congrFun (w3 q hq) i
      rw [if_pos hi] at e
      unfold am_mr
      rw [Nat.add_comm q 2, e]
      rfl
    rw [if_pos c, if_pos c, likeAs I J (by decide), w1, Option.bind_some, Option.bind_some]
    dsimp only
    obtain ⟨X1, A1, r1, r2, r3, r4, r5⟩ := restore_sim (J := J) (B := B) 8 am_FU am_FU 0 (am_bl I 2 22) W (by decide) (by decide) (by decide) (by decide) (rn 0 3 (by decide)) wN (by
      intro s hs
      obtain ⟨c1, c2, c3, c4, c5, c6, c7, c8, c9, c10⟩ := h.sh s hs
      rw [blo _ (by omega), w2 11 (by decide), w2 14 (by decide)]
      exact ⟨c1, fun f => ⟨c5 f, c9 f⟩⟩)
    rw [r1, r2]
    have X1o : ∀ a, a < 41 → X1 a = am_bl I 2 22 a := fun a ha => r3 a (fun s hs => by omega)
    have A1o : ∀ a, 12 ≤ a ∨ a = 1 → A1 a = A a := fun a ha => (r4 a (by omega)).trans (w2 a (by omega))
    have A10 : A1 0 = W 0 := r4 0 (by decide)
    refine .mk1 ⟨⟨?_, ?_, ?_, ?_, ?_, ?_, ?_, ?_, ?_, ?_, ?_, ?_, ?_, ?_, ?_⟩, ?_, ?_, ?_, ?_, ?_, ?_, ?_, (A1o 17 (by decide)).trans h.wd, ?_, ?_⟩
    · rw [X1o (2 + 1) (by decide), r 0 (by decide)]
      exact (r4 (2 + 0) (by decide)).symm
    · rw [X1o (2 + 2) (by decide), r 1 (by decide)]
      exact (r4 (2 + 1) (by decide)).symm
    · rw [X1o (2 + 3) (by decide), r 2 (by decide)]
      exact (r4 (2 + 2) (by decide)).symm
    · rw [X1o (2 + 4) (by decide), r 3 (by decide)]
      exact (r4 (2 + 3) (by decide)).symm
    · rw [X1o (2 + 5) (by decide), r 4 (by decide)]
      exact (r4 (2 + 4) (by decide)).symm
    · rw [X1o (2 + 6) (by decide), r 5 (by decide)]
      exact (r4 (2 + 5) (by decide)).symm
    · rw [X1o (2 + 7) (by decide), r 6 (by decide)]
      exact (r4 (2 + 6) (by decide)).symm
    · rw [X1o (2 + 8) (by decide), r 7 (by decide)]
      exact (r4 (2 + 7) (by decide)).symm
    · rw [X1o (2 + 9) (by decide), r 8 (by decide)]
      exact (r4 (2 + 8) (by decide)).symm
    · rw [X1o 2 (by decide), rn 0 3 (by decide)]
      exact (congrFun A10 0).symm
    · rw [X1o 2 (by decide), rn 1 10 (by decide)]
      exact (congrFun A10 1).symm
    · rw [X1o 2 (by decide), rn 2 11 (by decide)]
      exact (congrFun A10 2).symm
    · rw [X1o 2 (by decide), rn 3 12 (by decide)]
      exact (congrFun A10 3).symm
    · rw [X1o 2 (by decide), rn 4 13 (by decide)]
      exact (congrFun A10 4).symm
    · rw [X1o 2 (by decide), rn 5 14 (by decide)]
      exact (congrFun A10 5).symm
    · have := h.rf
      unfold am_Rf at this ⊢
      rw [X1o 40 (by decide), blo 40 (by decide), A1o 1 (by decide)]
      exact this
    · rw [X1o 0 (by decide), blo 0 (by decide), A10, w5 6 (by decide)]
      exact h.ft
    · intro s hs
      obtain ⟨c1, c2, c3, c4, c5, c6, c7, c8, c9, c10⟩ := h.sh s hs
      obtain ⟨f1, f2⟩ := (r5 s hs).2 (Nat.zero_le s)
      rw [w2 11 (by decide), w2 14 (by decide), blo (41 + 2 * s) (by omega)] at f1 f2
      unfold am_Sh
      rw [A1o 12 (by decide), A1o 13 (by decide), A1o 14 (by decide)]
      by_cases bad : A 11 s = 2 ∧ ¬ A 14 s < W 0 0
      · obtain ⟨g1, g2⟩ := f1 bad
        rw [g1, g2]
        exact ⟨rfl, c2, fun f => absurd f (by decide), fun _ => rfl, fun f => absurd f (by decide), Or.inl rfl, c7, c8, fun f => absurd f (by decide), c10⟩
      · obtain ⟨g1, g2⟩ := f2 bad
        rw [g1, g2]
        exact ⟨c1, c2, c3, c4, c5, c6, c7, c8, c9, c10⟩
    · have := h.im
      unfold am_Im at this ⊢
      rw [X1o 0 (by decide), blo 0 (by decide), A10, w5 38 (by decide), A1o 20 (by decide), X1o 22 (by decide), X1o 23 (by decide), X1o 24 (by decide), X1o 25 (by decide), X1o 26 (by decide), X1o 27 (by decide), X1o 28 (by decide), X1o 29 (by decide), X1o 30 (by decide), X1o 31 (by decide), blo 22 (by decide), blo 23 (by decide), blo 24 (by decide), blo 25 (by decide), blo 26 (by decide), blo 27 (by decide), blo 28 (by decide), blo 29 (by decide), blo 30 (by decide), blo 31 (by decide)]
      exact this
    · have := h.ac
      unfold am_Ac at this ⊢
      rw [X1o 38 (by decide), X1o 39 (by decide), blo 38 (by decide), blo 39 (by decide), A10, w5 37 (by decide), A1o 25 (by decide)]
      exact this
    · refine wg.cong (fun q i hq hi => ?_) (fun q hq => congrFun A10 q)
      unfold am_mr
      rw [r4 (q + 2) (by omega)]
    · intro _
      have z : am_kr A1 = am_kr A := by
        funext q i
        unfold am_kr
        rw [A1o 20 (by decide)]
      have z2 : am_kn A1 = am_kn A := by
        funext q
        unfold am_kn
        rw [A1o 20 (by decide)]
      rw [z, z2]
      exact kg
    · intro s hs f
      obtain ⟨f1, f2⟩ := (r5 s hs).2 (Nat.zero_le s)
      rw [w2 11 (by decide), w2 14 (by decide)] at f1 f2
      rw [A1o 14 (by decide), A10]
      by_cases bad : A 11 s = 2 ∧ ¬ A 14 s < W 0 0
      · rw [(f1 bad).2] at f
        exact absurd f (by decide)
      · rw [(f2 bad).2] at f
        have d : A 14 s < W 0 0 := Classical.not_not.mp (fun z => bad ⟨f, z⟩)
        rw [Int32.lt_iff_toInt_lt] at d
        exact d
    · have := h.ot
      refine ⟨fun i hi => ?_, fun i hi => ?_⟩
      · have v : ∀ q, q < 3 → A1 (2 + q) i = A (2 + q) i := by
          intro q hq
          have e := congrFun (w3 q (by omega)) i
          rw [if_neg (by unfold am_ln; rw [if_pos hq]; omega)] at e
          rw [r4 (2 + q) (by omega), e]
        rw [v 0 (by decide), v 1 (by decide), v 2 (by decide), X1o 13 (by decide), X1o 14 (by decide), X1o 15 (by decide), blo 13 (by decide), blo 14 (by decide), blo 15 (by decide)]
        exact this.1 i hi
      · have v : ∀ q, 3 ≤ q ∧ q < 9 → A1 (2 + q) i = A (2 + q) i := by
          intro q hq
          have e := congrFun (w3 q (by omega)) i
          rw [if_neg (by unfold am_ln; rw [if_neg (by omega)]; omega)] at e
          rw [r4 (2 + q) (by omega), e]
        rw [v 3 (by decide), v 4 (by decide), v 5 (by decide), v 6 (by decide), v 7 (by decide), v 8 (by decide), X1o 16 (by decide), X1o 17 (by decide), X1o 18 (by decide), X1o 19 (by decide), X1o 20 (by decide), X1o 21 (by decide), blo 16 (by decide), blo 17 (by decide), blo 18 (by decide), blo 19 (by decide), blo 20 (by decide), blo 21 (by decide)]
        exact this.2 i hi
  · rw [if_neg c, if_neg c]
    exact .no6 h
