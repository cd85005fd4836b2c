/-! THE TWO WORLDS' cells and references; functional runs -/
def TX : List (Nat × Nat) := [(5, 10), (52, 8), (1, 15), (50, 8), (50, 8), (50, 8), (50, 24), (50, 24), (50, 24), (50, 24), (50, 24), (50, 24), (1, 15), (50, 8), (50, 8), (50, 8), (50, 24), (50, 24), (50, 24), (50, 24), (50, 24), (50, 24), (1, 15), (50, 8), (50, 8), (50, 8), (50, 24), (50, 24), (50, 24), (50, 24), (50, 24), (50, 24), (3, 4), (50, 160), (4, 3), (50, 4), (50, 4), (50, 4), (0, 5), (50, 20), (50, 7), (2, 5), (51, 160), (2, 5), (51, 160), (2, 5), (51, 160), (2, 5), (51, 160), (2, 5), (51, 160), (2, 5), (51, 160), (2, 5), (51, 160), (2, 5), (51, 160)]
def TM : List (Nat × Nat) := [(6, 39), (50, 8), (50, 8), (50, 8), (50, 8), (50, 24), (50, 24), (50, 24), (50, 24), (50, 24), (50, 24), (50, 8), (50, 8), (50, 8), (50, 8), (51, 1280), (51, 160), (50, 43), (50, 3), (50, 180), (50, 180), (50, 4), (50, 4), (50, 4), (50, 24), (50, 20)]
/-- the references of x's world: fields by cell and place -/
def RX (h k : Nat) : Value := match h, k with
  | 0, 0 => .ref 1
  | 0, 1 => .ref 2
  | 0, 2 => .ref 12
  | 0, 3 => .ref 22
  | 0, 5 => .ref 32
  | 0, 7 => .ref 34
  | 0, 8 => .ref 38
  | 0, 9 => .ref 40
  | 1, 0 => .ref 41
  | 1, 1 => .ref 43
  | 1, 2 => .ref 45
  | 1, 3 => .ref 47
  | 1, 4 => .ref 49
  | 1, 5 => .ref 51
  | 1, 6 => .ref 53
  | 1, 7 => .ref 55
  | h, k => bif Nat.beq h 2 || Nat.beq h 12 || Nat.beq h 22 then (match k with
      | 0 => .ref (h + 1)
      | 1 => .ref (h + 2)
      | 2 => .ref (h + 3)
      | 4 => .ref (h + 4)
      | 5 => .ref (h + 5)
      | 6 => .ref (h + 6)
      | 7 => .ref (h + 7)
      | 8 => .ref (h + 8)
      | 9 => .ref (h + 9)
      | _ => .null)
    else bif Nat.beq h 34 then (match k with
      | 0 => .ref 35
      | 1 => .ref 36
      | 2 => .ref 37
      | _ => .null)
    else match k with
      | 0 => bif Nat.beq h 32 || Nat.beq h 38 || (Nat.ble 41 h && Nat.ble h 55 && Nat.beq (h % 2) 1) then .ref (h + 1) else .null
      | _ => .null
def RM (h k : Nat) : Value := bif Nat.beq h 0 then (match k with
  | 7 => .ref 1
  | 8 => .ref 2
  | 9 => .ref 3
  | 10 => .ref 4
  | 11 => .ref 5
  | 12 => .ref 6
  | 13 => .ref 7
  | 14 => .ref 8
  | 15 => .ref 9
  | 16 => .ref 10
  | 17 => .ref 11
  | 18 => .ref 12
  | 19 => .ref 13
  | 20 => .ref 14
  | 21 => .ref 15
  | 22 => .ref 16
  | 23 => .ref 17
  | 24 => .ref 18
  | 30 => .ref 19
  | 31 => .ref 20
  | 32 => .ref 21
  | 33 => .ref 22
  | 34 => .ref 23
  | 35 => .ref 24
  | 36 => .ref 25
  | _ => .null) else .null
def am_FU : Nat := 1000000
/-- a run with one result and one memory behind -/
def am_F (d y : Nat) (ls : List Value) (M : am_M) (r : Option Value) (M1 : am_M) : Prop := am_E d y (0, ls, [], M) (fun v M' => v = r ∧ M' = M1)
section AMF
variable {d d' y y' : Nat} {c : am_C} {Q : Option Value → am_M → Prop} {p : Prop} {r : Option Value} {M M1 : am_M}
theorem am_E.callF {a ls st : List Value} {pc : Nat} (h : am_step false y c = some (.inr (.inl (y', a, (pc, ls, st, M))))) (hd : d' < d) (hc : am_F d' y' a M r M1) (k : am_E d y (pc, ls, r.toList ++ st, M1) Q) : am_E d y c Q := am_E.call h hd hc (fun v M' hq => by obtain ⟨rfl, rfl⟩ := hq; exact k)
theorem am_E.callGF {a ls st : List Value} {pc : Nat} [Decidable p] (h : am_step false y c = am_grd p (some (.inr (.inl (y', a, (pc, ls, st, M)))))) (hp : p) (hd : d' < d) (hc : am_F d' y' a M r M1) (k : am_E d y (pc, ls, r.toList ++ st, M1) Q) : am_E d y c Q := am_E.callG h hp hd hc (fun v M' hq => by obtain ⟨rfl, rfl⟩ := hq; exact k)
end AMF
theorem am_ifI {p : Prop} [Decidable p] {α : Type} {a : Option α} {r : α} (h : (if p then a else none) = some r) : p ∧ a = some r := by
  by_cases hp : p
  · rw [if_pos hp] at h; exact ⟨hp, h⟩
  · rw [if_neg hp] at h; cases h
theorem am_bindI {α β : Type} {a : Option α} {f : α → Option β} {r : β} (h : a.bind f = some r) : ∃ q, a = some q ∧ f q = some r := by
  cases a with
  | none => cases h
  | some q => exact ⟨q, rfl, h⟩
abbrev dm_b (h : Nat) : Prop := h = 2 ∨ h = 12 ∨ h = 22
abbrev dm_s (h : Nat) : Prop := h = 41 ∨ h = 43 ∨ h = 45 ∨ h = 47 ∨ h = 49 ∨ h = 51 ∨ h = 53 ∨ h = 55
abbrev dm_w (h : Nat) : Prop := h = 1000 ∨ h = 1001 ∨ h = 1002 ∨ h = 1003 ∨ h = 1004 ∨ h = 1005 ∨ h = 1006
abbrev dm_wb (h : Nat) : Prop := h = 1100 ∨ h = 1101 ∨ h = 1102 ∨ h = 1103 ∨ h = 1104 ∨ h = 1105 ∨ h = 1106
abbrev dm_cnt (h : Nat) : Prop := h = 7 ∨ h = 8 ∨ h = 17 ∨ h = 18 ∨ h = 27 ∨ h = 28
abbrev dm_mc (h : Nat) : Prop := h = 6 ∨ h = 7
abbrev dm_of (h : Nat) : Prop := h = 2 ∨ h = 3 ∨ h = 4 ∨ h = 5 ∨ h = 6 ∨ h = 7 ∨ h = 8 ∨ h = 9 ∨ h = 10
abbrev dm_to (h : Nat) : Prop := h = 19 ∨ h = 20
abbrev dm_el (h : Nat) : Prop := h = 42 ∨ h = 44 ∨ h = 46 ∨ h = 48 ∨ h = 50 ∨ h = 52 ∨ h = 54 ∨ h = 56
theorem am_shTag {h : Nat} (hs : dm_s h) : (am_nth TX h).1 = 2 := by
  rcases hs with rfl | rfl | rfl | rfl | rfl | rfl | rfl | rfl <;> rfl
theorem am_shLt {h : Nat} (hs : dm_s h) : h < 900 := by
  rcases hs with rfl | rfl | rfl | rfl | rfl | rfl | rfl | rfl <;> decide
theorem am_lt9 {h : Nat} (hs : h < 900) : h < 900 := hs
/-- a reference or null: null is 0 -/
def am_rv (n : Nat) : Value := if n = 0 then .null else .ref n
theorem am_rv0 {n : Nat} (h : n = 0) : am_rv n = .null := if_pos h
theorem am_rv1 {n : Nat} (h : ¬ n = 0) : am_rv n = .ref n := if_neg h
theorem am_chr (x : Int32) : ((x.toUInt32 % 65536).toInt32.toUInt32 % 65536).toInt32 = (x.toUInt32 % 65536).toInt32 := by
  rw [UInt32.toUInt32_toInt32]
  congr 1
  apply UInt32.toNat_inj.mp
  simp
theorem am_b01 (p : Prop) [Decidable p] : (if p then (1 : Int32) else 0) = 0 ∨ (if p then (1 : Int32) else 0) = 1 := by
  by_cases hp : p
  · rw [if_pos hp]; exact Or.inr rfl
  · rw [if_neg hp]; exact Or.inl rfl
/-- shelfAt: the shelf's cell, or null (0) -/
def DX7_shelfAt (a0 : Int32) : Nat := if a0 < 0 then 0 else if a0 < 8 then 41 + 2 * a0.toNatClampNeg else 0
theorem am_lt_nat {a : Int32} {n : Nat} (h0 : ¬ a < 0) (h1 : a < nI n) (hn : n < 2 ^ 31) : a.toNatClampNeg < n ∧ a = nI a.toNatClampNeg := by
  obtain ⟨k, hk, rfl⟩ := nI_of h0
  have : k < n := by
    rcases Nat.lt_or_ge k n with q | q
    · exact q
    · exact absurd h1 (nI_nlt q hk)
  rw [nI_clamp hk]
  exact ⟨this, rfl⟩
theorem axX7_shelfId {a0 : Int32} (h : ¬ DX7_shelfAt a0 = 0) : dm_s (DX7_shelfAt a0) := by
  unfold DX7_shelfAt at h ⊢
  by_cases h0 : a0 < 0
  · rw [if_pos h0] at h; exact absurd rfl h
  · rw [if_neg h0] at h ⊢
    by_cases h1 : a0 < 8
    · rw [if_pos h1]
      have h2 := (am_lt_nat (n := 8) h0 h1 (by decide)).1
      unfold dm_s
      omega
    · rw [if_neg h1] at h; exact absurd rfl h
theorem axX7_shelfAt (I : Nat → Nat → Int32) (J : Nat → Nat → Int64) (a0 : Int32) : am_F 0 nX7_shelfAt [.ref 0, .int a0] (TX, I, J, RX) (some (am_rv (DX7_shelfAt a0))) (TX, I, J, RX) := by
  unfold am_F DX7_shelfAt
  refine am_E.go (n := 400) rfl ?_
  refine am_E.brk rfl (fun hp => ?_) (fun hp => ?_)
  · rw [if_pos hp]
    refine am_E.go (n := 400) rfl ?_
    exact am_E.ret rfl ⟨rfl, rfl⟩
  · rw [if_neg hp]
    refine am_E.go (n := 400) rfl ?_
    refine am_E.brk rfl (fun hq => ?_) (fun hq => ?_)
    · rw [if_pos (show a0 < 8 from hq)]
      refine am_E.go (n := 400) rfl ?_
      obtain ⟨h2, h3⟩ := am_lt_nat (n := 8) hp hq (by decide)
      generalize a0.toNatClampNeg = k at h2 h3
      subst h3
      have hR : RX 1 k = .ref (41 + 2 * k) := by
        have hk : k = 0 ∨ k = 1 ∨ k = 2 ∨ k = 3 ∨ k = 4 ∨ k = 5 ∨ k = 6 ∨ k = 7 := by omega
        rcases hk with rfl | rfl | rfl | rfl | rfl | rfl | rfl | rfl <;> rfl
      have key : am_step false nX7_shelfAt (22, [.ref 0, .int (nI k)], [.int (nI k), .ref 1], TX, I, J, RX) = am_grd (¬ (nI k < 0 ∨ 8 ≤ (nI k).toNatClampNeg)) (match RX 1 (nI k).toNatClampNeg with
        | .ref x => bif Nat.blt x 900 then am_go 23 [.ref 0, .int (nI k)] [.ref x] (TX, I, J, RX) else none
        | .null => am_go 23 [.ref 0, .int (nI k)] [.null] (TX, I, J, RX)
        | _ => none) := rfl
      rw [nI_clamp (show k < 2 ^ 31 by omega), hR] at key
      dsimp only at key
      rw [show Nat.blt (41 + 2 * k) 900 = true from Nat.ble_eq_true_of_le (by omega)] at key
      refine am_E.grd key (fun q => by rcases q with q | q; exact nI_pos (by omega) q; omega) ?_
      exact am_E.ret rfl ⟨by rw [am_rv1 (by omega)], rfl⟩
    · rw [if_neg (show ¬ a0 < 8 from hq)]
      refine am_E.go (n := 400) rfl ?_
      exact am_E.ret rfl ⟨rfl, rfl⟩
