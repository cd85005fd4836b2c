/-! SENTENCES: village; items -/
/-- what m's item leaves as it is -/
def am_Nq (A1 A2 : am_mI) : Prop := (∀ k, k ≠ 0 → k ≠ 18 → A2 k = A1 k) ∧ ∀ q, q ≠ 26 → q ≠ 28 → q ≠ 29 → A2 0 q = A1 0 q
theorem am_Nq.me (A : am_mI) : am_Nq A A := ⟨fun _ _ _ => rfl, fun _ _ _ _ => rfl⟩
theorem am_Nm.q {A1 A2 : am_mI} (h : am_Nm A1 A2) : am_Nq A1 A2 := ⟨fun k hk _ => h.1 k hk, h.2⟩
theorem am_Nq.up {A1 A2 : am_mI} (h : am_Nq A1 A2) {k : Nat} {v : Int32} (hk : k = 26 ∨ k = 28 ∨ k = 29) : am_Nq A1 (am_upI A2 0 k v) :=
  ⟨fun q hq h2 => (am_upI_ne hq).trans (h.1 q hq h2), fun q h1 h2 h3 => (am_upI_no (by omega)).trans (h.2 q h1 h2 h3)⟩
theorem am_Nq.tell {A1 A2 : am_mI} (h : am_Nq A1 A2) {k : Nat} {v : Int32} : am_Nq A1 (am_upI A2 18 k v) :=
  ⟨fun q hq h2 => (am_upI_ne h2).trans (h.1 q hq h2), fun q h1 h2 h3 => (congrFun (am_upI_ne (by decide)) q).trans (h.2 q h1 h2 h3)⟩
theorem am_Nq.trans {A A1 A2 : am_mI} (h : am_Nq A A1) (g : am_Nq A1 A2) : am_Nq A A2 := ⟨fun k hk h2 => (g.1 k hk h2).trans (h.1 k hk h2), fun q h1 h2 h3 => (g.2 q h1 h2 h3).trans (h.2 q h1 h2 h3)⟩
theorem am_Rm.nq {s n : Nat} {A1 A2 : am_mI} (h : am_Rm s n A1) (g : am_Nq A1 A2) : am_Rm s n A2 := ⟨by rw [g.2 27 (by decide) (by decide) (by decide)]; exact h.1, by rw [g.2 25 (by decide) (by decide) (by decide)]; exact h.2.1, (g.1 17 (by decide) (by decide)).trans h.2.2⟩
/-- x's reader alone -/
def am_Xo (Z Z1 : am_mI) : Prop := ∀ k, k ≠ 32 → Z1 k = Z k
theorem am_Xo.me (Z : am_mI) : am_Xo Z Z := fun _ _ => rfl
theorem am_Xo.up {Z Z1 : am_mI} (h : am_Xo Z Z1) {k : Nat} {v : Int32} : am_Xo Z (am_upI Z1 32 k v) := fun q hq => (am_upI_ne hq).trans (h q hq)
theorem am_Xo.trans {Z Z1 Z2 : am_mI} (h : am_Xo Z Z1) (g : am_Xo Z1 Z2) : am_Xo Z Z2 := fun k hk => (g k hk).trans (h k hk)
theorem vw_xo {Z Z1 : am_mI} (h : am_Xo Z Z1) : ∀ k, k ≠ 32 → am_vw Z1 k = am_vw Z k := by
  intro k hk
  unfold am_vw
  by_cases k0 : k = 0
  · rw [if_pos k0, if_pos k0, h 0 (by decide)]
  · rw [if_neg k0, if_neg k0]
    by_cases k2 : 2 ≤ k ∧ k < 12
    · rw [if_pos k2, if_pos k2, h _ (by omega)]
    · rw [if_neg k2, if_neg k2]
      by_cases k3 : 12 ≤ k ∧ k < 22
      · rw [if_pos k3, if_pos k3, h _ (by omega)]
      · rw [if_neg k3, if_neg k3, h k hk]
/-- what must be there yet when the text is no good -/
def am_Kp (Y0 : am_mI) (H : am_mI) (Z A1 : am_mI) : Prop := (∀ k, k < 2 ∨ 12 ≤ k → k ≠ 32 → am_vw Z k = Y0 k) ∧ (∀ k, 11 ≤ k → k ≠ 18 → A1 k = H k)
theorem am_Kp.mid {Y0 : am_mI} {H : am_mI} {Z A1 Z1 A2 : am_mI} (h : am_Kp Y0 H Z A1) (g : am_Xo Z Z1) (q : am_Nq A1 A2) : am_Kp Y0 H Z1 A2 :=
  ⟨fun k h1 h2 => (vw_xo g k h2).trans (h.1 k h1 h2), fun k h1 h2 => (q.1 k (by omega) h2).trans (h.2 k h1 h2)⟩
theorem mid_tie {u : Nat} {J : am_mJ} {B : am_mJ} {Z A1 Z1 A2 : am_mI} (h : am_Iv u (am_vw Z) J A1 B) (g : am_Xo Z Z1) (q : am_Nq A1 A2) : am_Iv u (am_vw Z1) J A2 B := by
  have v := vw_xo g
  refine h.read (fun k hk => v k (by omega)) (fun k h0 h1 _ => q.1 k h0 h1) (fun i hi => q.2 i (by omega) (by omega) (by omega)) ?_
  have := h.ot
  unfold am_Ot at this ⊢
  rw [v 13 (by decide), v 14 (by decide), v 15 (by decide), v 16 (by decide), v 17 (by decide), v 18 (by decide), v 19 (by decide), v 20 (by decide), v 21 (by decide), q.1 2 (by decide) (by decide), q.1 3 (by decide) (by decide), q.1 4 (by decide) (by decide), q.1 5 (by decide) (by decide), q.1 6 (by decide) (by decide), q.1 7 (by decide) (by decide), q.1 8 (by decide) (by decide), q.1 9 (by decide) (by decide), q.1 10 (by decide) (by decide)]
  exact this
/-- the next number read by both: no good, or v -/
def am_NJ (B : am_mJ) (J : am_mJ) (s n : Nat) (w c x3 : Int32) (m : Nat) (Z1 A2 : am_mI) : Prop :=
  (∃ Z2 A3 : am_mI, (∀ lo hi, DX5_readNumber Z1 J lo hi = some (-1, Z2, J)) ∧ am_Xo Z1 Z2 ∧ am_Nq A2 A3 ∧ Z2 32 3 = A3 0 29 ∧ 0 ≤ (Z2 32 3).toInt ∧ LX8_item (m + 1) A2 B w c x3 = some (0, A3, B)) ∨
  (∃ (v e : Int32) (q : Nat) (Zo Zn A3 : am_mI), (0 ≤ v.toInt ∧ v.toInt ≤ 99) ∧ (∀ lo hi, DX5_readNumber Z1 J lo hi = if v < lo then some (-1, Zn, J) else if v ≤ hi then some (v, Zo, J) else some (-1, Zn, J)) ∧ am_Xo Z1 Zo ∧ am_Xo Z1 Zn ∧
    am_Rx B s n Zo ∧ (Zo 32 2).toInt = (q : Int) ∧ Zo 32 3 = -1 ∧ Zn 32 3 = e ∧ 0 ≤ e.toInt ∧ am_Nm A2 A3 ∧ A3 0 28 = v ∧ (A3 0 26).toInt = (q : Int) ∧ q ≤ 200 ∧ (∃ p : Nat, (Z1 32 2).toInt = (p : Int) ∧ p < q ∧ e.toInt = (p : Int) + 1) ∧
    LX8_item (m + 1) A2 B w c x3 = (DX8_isSo A3 w x3).bind fun so => if ¬ so = 0 then LX8_item m (am_upI A3 18 x3.toNatClampNeg v) B w c (x3 + 1) else some (0, am_upI A3 0 29 e, B))
theorem num_any {B : am_mJ} {J : am_mJ} {s n p : Nat} {Z1 A2 : am_mI} {w c x3 : Int32} {m : Nat} (hs : s < 8) (hn : n ≤ 160) (hx : am_Rx B s n Z1) (hp : (Z1 32 2).toInt = (p : Int)) (hp2 : p < n) (hf : Z1 32 3 = -1) (hb : am_lt B s n p = 32)
    {A2' : am_mI} (hm : am_Rm s n A2') (hq : (A2' 0 26).toInt = ((p + 1 : Nat) : Int)) (nq : am_Nm A2 A2') (g3 : ¬ (x3 < 0 ∨ 3 ≤ x3.toNatClampNeg))
    (it : LX8_item (m + 1) A2 B w c x3 = (DX8_number A2' B).bind fun q21 =>
        if ¬ q21.1 = 0 then
          (DX8_isSo q21.2.1 w x3).bind fun q22 =>
          if ¬ q22 = 0 then
            if ¬ (x3 < 0 ∨ 3 ≤ (x3).toNatClampNeg) then
              LX8_item m ((am_upI q21.2.1 18 (x3).toNatClampNeg (q21.2.1 0 28))) q21.2.2 w c ((x3 + (1 : Int32)))
            else none
          else
            (DX8_faulty q21.2.1 q21.2.2 (A2' 0 26)).bind fun q23 =>
            if q23.1 = 0 ∨ q23.1 = 1 then some (q23.1, q23.2.1, q23.2.2) else none
        else
          some ((0 : Int32), q21.2.1, q21.2.2)) : am_NJ B J s n w c x3 m Z1 A2 := by
  obtain ⟨-, x2, x3'⟩ := xnum (J := J) hx hn hp (by omega) hf 0 0
  obtain ⟨m1, m2⟩ := mnum (B := B) hm hs hn hq (by omega)
  by_cases d : am_dg (am_lt B s n (p + 1)) = 0
  · obtain ⟨A3, a1, a2, a3⟩ := m1 d
    obtain ⟨e, e1, -⟩ := x2 hb d
    left
    refine ⟨am_upI (am_upI Z1 32 2 e) 32 3 e, A3, fun lo hi => ?_, ((am_Xo.me Z1).up).up, (nq.trans a2).q, ?_, ?_, ?_⟩
    · obtain ⟨-, y2, -⟩ := xnum (J := J) hx hn hp (by omega) hf lo hi
      obtain ⟨e', f1, f2⟩ := y2 hb d
      rw [f2, show e' = e from Int32.toInt_inj.mp (by omega)]
    · rw [am_upI_yes, a3]
      exact Int32.toInt_inj.mp (by omega)
    · rw [am_upI_yes]
      omega
    · rw [it, a1, Option.bind_some]
      exact if_neg (fun f => f rfl)
  · obtain ⟨A3, a1, a2, a3, a4⟩ := m2 d
    obtain ⟨e, q, e1, q1, -⟩ := x3' hb d
    right
    have nr := ne_rg (B := B) (s := s) (n := n) (i := p + 1)
    refine ⟨am_nv B s n (p + 1), e, am_ne B s n (p + 1), am_upI Z1 32 2 q, am_upI (am_upI Z1 32 2 q) 32 3 e, A3, nv_rg d, fun lo hi => ?_, (am_Xo.me Z1).up, ((am_Xo.me Z1).up).up, hx.up (by decide), ?_, ?_, am_upI_yes, by omega, nq.trans a2, a3, a4, by omega, ⟨p, hp, by omega, by omega⟩, ?_⟩
    · obtain ⟨-, -, y3⟩ := xnum (J := J) hx hn hp (by omega) hf lo hi
      obtain ⟨e', q', f1, f2, f3⟩ := y3 hb d
      rw [f3, show e' = e from Int32.toInt_inj.mp (by omega), show q' = q from Int32.toInt_inj.mp (by omega)]
    · rw [am_upI_yes]
      exact q1
    · rw [am_upI_no (by decide)]
      exact hf
    · rw [it, a1, Option.bind_some]
      dsimp only
      rw [if_pos (show ¬ (1 : Int32) = 0 by decide), if_pos g3, a3]
      congr 1
      funext so
      unfold DX8_faulty
      rw [Option.bind_some]
      dsimp only
      rw [if_pos (Or.inl rfl), show A2' 0 26 = e from Int32.toInt_inj.mp (by omega)]
theorem num_first {B : am_mJ} {J : am_mJ} {s n p : Nat} {Z1 A2 : am_mI} {w c : Int32} {m : Nat} (hs : s < 8) (hn : n ≤ 160) (hx : am_Rx B s n Z1) (hp : (Z1 32 2).toInt = (p : Int)) (hp2 : p < n) (hf : Z1 32 3 = -1) (hb : am_lt B s n p = 32) (hm : am_Rm s n A2) (hq : (A2 0 26).toInt = ((p + 1 : Nat) : Int)) (hc : ¬ c ≤ 0) : am_NJ B J s n w c 0 m Z1 A2 := by
  refine num_any hs hn hx hp hp2 hf hb hm hq (am_Nm.me A2) (by decide) ?_
  rw [LX8_item_s, if_neg hc, if_pos (by decide)]
theorem num_next {B : am_mJ} {J : am_mJ} {s n p : Nat} {Z1 A2 : am_mI} {w c x3 : Int32} {m : Nat} (hs : s < 8) (hn : n ≤ 160) (hx : am_Rx B s n Z1) (hp : (Z1 32 2).toInt = (p : Int)) (hp2 : p ≤ 200) (hf : Z1 32 3 = -1) (hm : am_Rm s n A2) (hq : (A2 0 26).toInt = (p : Int)) (hc : ¬ c ≤ x3) (h3 : x3 = 1 ∨ x3 = 2) : am_NJ B J s n w c x3 m Z1 A2 := by
  have h0 : ¬ x3 ≤ 0 := by rcases h3 with rfl | rfl <;> decide
  have g3 : ¬ (x3 < 0 ∨ 3 ≤ x3.toNatClampNeg) := by rcases h3 with rfl | rfl <;> decide
  have bad : am_lt B s n p ≠ 32 → LX8_item (m + 1) A2 B w c x3 = some (0, am_upI A2 0 29 (A2 0 26), B) → am_NJ B J s n w c x3 m Z1 A2 := by
    intro nb it
    left
    refine ⟨am_upI Z1 32 3 (Z1 32 2), _, fun lo hi => (xnum (J := J) hx hn hp (by omega) hf lo hi).1 nb, (am_Xo.me Z1).up, (am_Nq.me A2).up (by decide), ?_, ?_, it⟩
    · rw [am_upI_yes, am_upI_yes]
      exact Int32.toInt_inj.mp (by omega)
    · rw [am_upI_yes]
      omega
  by_cases c0 : p < n
  · obtain ⟨g, e⟩ := mletter (B := B) hm hs hn hq c0
    by_cases b : am_lt B s n p = 32
    · have p1 : (A2 0 26 + 1).toInt = ((p + 1 : Nat) : Int) := by
        rw [i32_succ (n := 10000) (by omega) (by omega) (by omega)]
        omega
      refine num_any hs hn hx hp c0 hf b (A2' := am_upI A2 0 26 (A2 0 26 + 1)) (hm.nq ((am_Nq.me A2).up (by decide))) (by rw [am_upI_yes]; exact p1) ((am_Nm.me A2).up (by decide)) g3 ?_
      rw [LX8_item_s, if_neg hc, if_neg h0, if_neg (show ¬ A2 0 27 ≤ A2 0 26 by rw [(lt_eq hm.1 hq).2]; omega), if_pos g, e, if_pos b]
    · refine bad b ?_
      rw [LX8_item_s, if_neg hc, if_neg h0, if_neg (show ¬ A2 0 27 ≤ A2 0 26 by rw [(lt_eq hm.1 hq).2]; omega), if_pos g, e, if_neg b]
      unfold DX8_faulty
      rw [Option.bind_some]
      exact if_pos (Or.inl rfl)
  · refine bad ?_ ?_
    · unfold am_lt
      rw [if_neg c0]
      decide
    · rw [LX8_item_s, if_neg hc, if_neg h0, if_pos (show A2 0 27 ≤ A2 0 26 by rw [(lt_eq hm.1 hq).2]; omega)]
      unfold DX8_faulty
      rw [Option.bind_some]
      exact if_pos (Or.inl rfl)
/-- both read on: x at px, m at pm -/
def am_Rd (s n : Nat) (Y0 : am_mI) (H : am_mI) (u : Nat) (J : am_mJ) (B : am_mJ) (Z A1 : am_mI) (px pm : Nat) : Prop :=
  am_Iv u (am_vw Z) J A1 B ∧ am_Rx B s n Z ∧ am_Rm s n A1 ∧ (Z 32 2).toInt = (px : Int) ∧ (A1 0 26).toInt = (pm : Int) ∧ Z 32 3 = -1 ∧ am_Kp Y0 H Z A1
/-- both found the same fault -/
def am_Fd (Y0 : am_mI) (H : am_mI) (u : Nat) (J : am_mJ) (B : am_mJ) (Z A1 : am_mI) : Prop :=
  am_Iv u (am_vw Z) J A1 B ∧ Z 32 3 = A1 0 29 ∧ 0 ≤ (Z 32 3).toInt ∧ am_Kp Y0 H Z A1
def am_IR (s n : Nat) (Y0 : am_mI) (H : am_mI) (u : Nat) (J : am_mJ) (B : am_mJ) (p : Nat) (ox om : Option (Int32 × am_mI × am_mJ)) : Prop :=
  (∃ (Z2 A2 : am_mI) (p' : Nat), ox = some (0, Z2, J) ∧ om = some (1, A2, B) ∧ am_Rd s n Y0 H (u + 99) J B Z2 A2 p' p' ∧ p < p' ∧ p' ≤ 200) ∨
  (∃ Z2 A2 : am_mI, ox = some (0, Z2, J) ∧ om = some (0, A2, B) ∧ am_Fd Y0 H (u + 99) J B Z2 A2)
theorem am_Fd.nf {Y0 : am_mI} {H : am_mI} {u : Nat} {J : am_mJ} {B : am_mJ} {Z A1 : am_mI} (h : am_Fd Y0 H u J B Z A1) : ¬ Z 32 3 = -1 := by
  intro e
  have := h.2.2.1
  rw [e] at this
  exact absurd this (by decide)
theorem am_Fd.more {Y0 : am_mI} {H : am_mI} {u v : Nat} {J : am_mJ} {B : am_mJ} {Z A1 : am_mI} (h : am_Fd Y0 H u J B Z A1) (uv : u ≤ v) : am_Fd Y0 H v J B Z A1 := ⟨h.1.more uv, h.2⟩
theorem num_step {s n : Nat} {Y0 : am_mI} {H : am_mI} {u : Nat} {J : am_mJ} {B : am_mJ} {Z1 A2 : am_mI} {px pm : Nat} {w c x3 lo hi : Int32} {m : Nat} (h : am_Rd s n Y0 H u J B Z1 A2 px pm) (nj : am_NJ B J s n w c x3 m Z1 A2)
    (hso : ∀ (A3 : am_mI) (v : Int32), am_Nq A2 A3 → A3 0 28 = v → 0 ≤ v.toInt ∧ v.toInt ≤ 99 → DX8_isSo A3 w x3 = some (if v < lo then 0 else if v ≤ hi then 1 else 0)) :
    (∃ Z2 A3 : am_mI, DX5_readNumber Z1 J lo hi = some (-1, Z2, J) ∧ LX8_item (m + 1) A2 B w c x3 = some (0, A3, B) ∧ am_Fd Y0 H u J B Z2 A3) ∨
    (∃ (v : Int32) (Zo A3 : am_mI) (q : Nat), DX5_readNumber Z1 J lo hi = some (v, Zo, J) ∧ LX8_item (m + 1) A2 B w c x3 = LX8_item m (am_upI A3 18 x3.toNatClampNeg v) B w c (x3 + 1) ∧ am_Rd s n Y0 H u J B Zo (am_upI A3 18 x3.toNatClampNeg v) q q ∧ A3 18 = A2 18 ∧ A3 0 0 = A2 0 0 ∧ lo.toInt ≤ v.toInt ∧ v.toInt ≤ hi.toInt ∧ (0 ≤ v.toInt ∧ v.toInt ≤ 99) ∧ px < q ∧ q ≤ 200 ∧ am_Xo Z1 Zo ∧ am_Nq A2 A3) := by
  obtain ⟨h1, h2, h3, h4, h5, h6, h7⟩ := h
  rcases nj with ⟨Z2, A3, a1, a2, a3, a4, a5, a6⟩ | ⟨v, e, q, Zo, Zn, A3, a1, a2, a3, a4, a5, a6, a7, a8, a9, a10, a11, a12, a13, ⟨p, p1, p2, p3⟩, a14⟩
  · left
    exact ⟨Z2, A3, a1 lo hi, a6, mid_tie h1 a2 a3, a4, a5, h7.mid a2 a3⟩
  · have so := hso A3 v a10.q a11 a1
    have nofit : DX5_readNumber Z1 J lo hi = some (-1, Zn, J) → DX8_isSo A3 w x3 = some 0 → ∃ Z2 A4 : am_mI, DX5_readNumber Z1 J lo hi = some (-1, Z2, J) ∧ LX8_item (m + 1) A2 B w c x3 = some (0, A4, B) ∧ am_Fd Y0 H u J B Z2 A4 := by
      intro r t
      refine ⟨Zn, am_upI A3 0 29 e, r, ?_, mid_tie h1 a4 (a10.q.up (by decide)), ?_, ?_, h7.mid a4 (a10.q.up (by decide))⟩
      · rw [a14, t, Option.bind_some, if_neg (show ¬ ¬ (0 : Int32) = 0 from fun f => f rfl)]
      · rw [a8, am_upI_yes]
      · rw [a8]
        exact a9
    by_cases c1 : v < lo
    · left
      refine nofit ?_ ?_
      · rw [a2, if_pos c1]
      · rw [so, if_pos c1]
    · by_cases c2 : v ≤ hi
      · right
        have b1 := c1
        have b2 := c2
        rw [Int32.lt_iff_toInt_lt] at b1
        rw [Int32.le_iff_toInt_le] at b2
        have nq : am_Nq A2 (am_upI A3 18 x3.toNatClampNeg v) := a10.q.tell
        refine ⟨v, Zo, A3, q, ?_, ?_, ⟨mid_tie h1 a3 nq, a5, h3.nq nq, a6, ?_, a7, h7.mid a3 nq⟩, a10.1 18 (by decide), a10.2 0 (by decide) (by decide) (by decide), by omega, b2, a1, by omega, a13, a3, a10.q⟩
        · rw [a2, if_neg c1, if_pos c2]
        · rw [a14, so, if_neg c1, if_pos c2, Option.bind_some, if_pos (show ¬ (1 : Int32) = 0 by decide)]
        · rw [am_upI_ne (by decide)]
          exact a12
      · left
        refine nofit ?_ ?_
        · rw [a2, if_neg c1, if_neg c2]
        · rw [so, if_neg c1, if_neg c2]
/-- the deed is done, both read on -/
theorem deed {s n : Nat} {Y0 : am_mI} {H : am_mI} {u u' : Nat} {J : am_mJ} {B : am_mJ} {Z A1 Y A2 : am_mI} {p : Nat} (h : am_Rd s n Y0 H u J B Z A1 p p) (fx : am_Fx (am_vw Z) Y) (t : am_Iv u' Y J A2 B) (fm : am_Fm A1 A2) (f0 : ∀ q, 25 ≤ q → q ≤ 27 → A2 0 q = A1 0 q) : am_Rd s n Y0 H u' J B (am_bb Z Y) A2 p p := by
  obtain ⟨h1, h2, h3, h4, h5, h6, h7⟩ := h
  have e32 : am_bb Z Y 32 = Z 32 := bk_off (by decide)
  have e33 : am_bb Z Y 33 = Z 33 := bk_off (by decide)
  have vv := vw_bk fx
  refine ⟨by rw [vv]; exact t, ⟨by rw [e32]; exact h2.1, fun i hi => by rw [e33]; exact h2.2 i hi⟩, ⟨?_, ?_, (fm 17 (by decide)).trans h3.2.2⟩, by rw [e32]; exact h4, ?_, by rw [e32]; exact h6, fun k k1 k2 => ?_, fun k k1 k2 => (fm k k1).trans (h7.2 k k1 k2)⟩
  · rw [f0 27 (by decide) (by decide)]
    exact h3.1
  · rw [f0 25 (by decide) (by decide)]
    exact h3.2.1
  · rw [f0 26 (by decide) (by decide)]
    exact h5
  · rw [vv, fx k k1]
    exact h7.1 k k1 k2
theorem item_cell {s n : Nat} {Y0 : am_mI} {H : am_mI} {u : Nat} {J : am_mJ} {B : am_mJ} {Z A1 : am_mI} {p : Nat} (hs : s < 8) (hn : n ≤ 160) (h : am_Rd s n Y0 H u J B Z A1 p (p + 1)) (hp : p < n) (hb : am_lt B s n p = 32) : am_IR s n Y0 H u J B p (DX5_readCell Z J 12) (LX8_item am_FU A1 B 1 2 0) := by
  obtain ⟨m, em, -⟩ : ∃ m, am_FU = m + 1 + 1 + 1 ∧ 100 < m := ⟨am_FU - 3, by have : am_FU = 1000000 := rfl; omega, by have : am_FU = 1000000 := rfl; omega⟩
  have v0 : (0 : Int32).toInt = 0 := rfl
  have v7 : (7 : Int32).toInt = 7 := rfl
  have v8 : (8 : Int32).toInt = 8 := rfl
  have v23 : (23 : Int32).toInt = 23 := rfl
  have v24 : (24 : Int32).toInt = 24 := rfl
  rw [em]
  unfold DX5_readCell
  rcases num_step (lo := 0) (hi := 23) h (num_first hs hn h.2.1 h.2.2.2.1 hp h.2.2.2.2.2.1 hb h.2.2.1 h.2.2.2.2.1 (m := m + 1 + 1) (w := 1) (c := 2) (by decide)) (by
    intro A3 v nq e r
    unfold DX8_isSo
    simp +decide only [if_true, if_false]
    rw [e, if_neg (show ¬ v < 0 by rw [Int32.lt_iff_toInt_lt]; omega)]
    by_cases c : (24 : Int32) ≤ v
    · rw [if_pos c, if_neg (show ¬ v ≤ 23 by rw [Int32.le_iff_toInt_le] at c ⊢; omega)]
    · rw [if_neg c, if_pos (show v ≤ 23 by rw [Int32.le_iff_toInt_le] at c ⊢; omega)]) with ⟨Z2, A3, r1, r2, r3⟩ | ⟨v, Zo, A3, q, r1, r2, r3, r4, r4', r5, r6, r7, r8, r9, r10, r11⟩
  · right
    refine ⟨Z2, A3, ?_, r2, r3.more (by omega)⟩
    rw [r1, Option.bind_some, xskip r3.nf, Option.bind_some]
    exact if_pos r3.nf
  · rcases num_step (lo := 0) (hi := 7) r3 (num_next hs hn r3.2.1 r3.2.2.2.1 r9 r3.2.2.2.2.2.1 r3.2.2.1 r3.2.2.2.2.1 (m := m + 1) (w := 1) (c := 2) (x3 := 1) (by decide) (Or.inl rfl)) (by
      intro A3 v nq e r
      unfold DX8_isSo
      simp +decide only [if_true, if_false, not_true_eq_false, not_false_eq_true]
      rw [e, if_neg (show ¬ v < 0 by rw [Int32.lt_iff_toInt_lt]; omega)]
      by_cases c : (8 : Int32) ≤ v
      · rw [if_pos c, if_neg (show ¬ v ≤ 7 by rw [Int32.le_iff_toInt_le] at c ⊢; omega)]
      · rw [if_neg c, if_pos (show v ≤ 7 by rw [Int32.le_iff_toInt_le] at c ⊢; omega)]) with ⟨Z2, A4, t1, t2, t3⟩ | ⟨v2, Zo2, A4, q2, t1, t2, t3, t4, t4', t5, t6, t7, t8, t9, t10, t11⟩
    · right
      refine ⟨Z2, A4, ?_, ?_, t3.more (by omega)⟩
      · rw [r1, Option.bind_some]
        dsimp only
        rw [t1, Option.bind_some]
        exact if_pos t3.nf
      · rw [r2]
        exact t2
    · left
      have cc := xcell (a := v) (by omega)
      have g := (cell_in cc).1
      have tie := t3.1.row3 (k := v.toNatClampNeg) (v := v2) (by omega) (cell_lt cc)
      have dr : DX1_draw Zo2 J 12 v v2 = some (0, am_bb Zo2 (am_upI (am_vw Zo2) 6 v.toNatClampNeg v2), J) := by
        have := bk_draw (X := Zo2) (Y := am_vw Zo2) (J := J) (a := v) (v := v2)
        rw [bk_vw] at this
        rw [this]
        unfold DX1_draw
        rw [if_neg cc, if_pos g]
        rfl
      have e0 : am_upI A4 18 (1 : Int32).toNatClampNeg v2 18 (0 : Int32).toNatClampNeg = v := by
        rw [am_upI_no (by decide), t4]
        exact am_upI_yes
      have e1 : am_upI A4 18 (1 : Int32).toNatClampNeg v2 18 (1 : Int32).toNatClampNeg = v2 := am_upI_yes
      refine ⟨_, am_upI (am_upI A4 18 (1 : Int32).toNatClampNeg v2) 5 v.toNatClampNeg v2, q2, ?_, ?_, deed t3 ((am_Fx.me _).up (by decide)) (tie.more (by omega)) ((am_Fm.me _).up (by decide)) (fun _ _ _ => congrFun (am_upI_ne (by decide)) _), by omega, t9⟩
      · rw [r1, Option.bind_some]
        dsimp only
        rw [t1, Option.bind_some]
        dsimp only
        rw [if_neg (not_not_intro t3.2.2.2.2.2.1), dr, Option.bind_some]
      · rw [r2]
        exact t2.trans (by
          rw [show (1 : Int32) + 1 = 2 from rfl, LX8_item_s, if_pos (by decide)]
          simp +decide only [if_true, if_false]
          rw [e0, e1, if_pos g])
theorem am_FU4 : ∃ m, am_FU = m + 1 + 1 + 1 + 1 := ⟨am_FU - 4, by have : am_FU = 1000000 := rfl; omega⟩
theorem xcount {u : Nat} {J : am_mJ} {B : am_mJ} {Z A1 : am_mI} (h : am_Iv u (am_vw Z) J A1 B) : DX1_stuffCount Z 12 = A1 0 0 := h.bd.n0
theorem le_pred {v n : Int32} (h0 : 0 ≤ v.toInt) (hn : 0 ≤ n.toInt ∧ n.toInt ≤ 8) : (n ≤ v ↔ ¬ v ≤ n - 1) ∧ (n - 1).toInt = n.toInt - 1 := by
  have v1 : (1 : Int32).toInt = 1 := rfl
  have e : (n - 1).toInt = n.toInt - 1 := by
    rw [Int32.toInt_sub, v1]
    exact Int.bmod_eq_of_le (by omega) (by omega)
  rw [Int32.le_iff_toInt_le, Int32.le_iff_toInt_le, e]
  exact ⟨by omega, rfl⟩
theorem item_plan {s n : Nat} {Y0 : am_mI} {H : am_mI} {u : Nat} {J : am_mJ} {B : am_mJ} {Z A1 : am_mI} {p : Nat} (hs : s < 8) (hn : n ≤ 160) (h : am_Rd s n Y0 H u J B Z A1 p (p + 1)) (hp : p < n) (hb : am_lt B s n p = 32) : am_IR s n Y0 H u J B p (DX5_readPlan Z J 12) (LX8_item am_FU A1 B 2 2 0) := by
  obtain ⟨m, em⟩ := am_FU4
  have v0 : (0 : Int32).toInt = 0 := rfl
  have v23 : (23 : Int32).toInt = 23 := rfl
  have v24 : (24 : Int32).toInt = 24 := rfl
  rw [em]
  unfold DX5_readPlan
  rcases num_step (lo := 0) (hi := 23) h (num_first hs hn h.2.1 h.2.2.2.1 hp h.2.2.2.2.2.1 hb h.2.2.1 h.2.2.2.2.1 (m := m + 1 + 1 + 1) (w := 2) (c := 2) (by decide)) (by
    intro A3 v nq e r
    unfold DX8_isSo
    simp +decide only [if_true, if_false]
    rw [e, if_neg (show ¬ v < 0 by rw [Int32.lt_iff_toInt_lt]; omega)]
    by_cases c : (24 : Int32) ≤ v
    · rw [if_pos c, if_neg (show ¬ v ≤ 23 by rw [Int32.le_iff_toInt_le] at c ⊢; omega)]
    · rw [if_neg c, if_pos (show v ≤ 23 by rw [Int32.le_iff_toInt_le] at c ⊢; omega)]) with ⟨Z2, A3, r1, r2, r3⟩ | ⟨v, Zo, A3, q, r1, r2, r3, r4, r4', r5, r6, r7, r8, r9, r10, r11⟩
  · right
    refine ⟨Z2, A3, ?_, r2, r3.more (by omega)⟩
    rw [r1, Option.bind_some]
    dsimp only
    rw [xskip r3.nf, Option.bind_some]
    exact if_pos r3.nf
  · have cnt := xcount r3.1
    have hN := r3.1.nn
    rcases num_step (lo := 0) (hi := DX1_stuffCount Zo 12 - 1) r3 (num_next hs hn r3.2.1 r3.2.2.2.1 r9 r3.2.2.2.2.2.1 r3.2.2.1 r3.2.2.2.2.1 (m := m + 1 + 1) (w := 2) (c := 2) (x3 := 1) (by decide) (Or.inl rfl)) (by
      intro A4 y nq e r
      unfold DX8_isSo
      simp +decide only [if_true, if_false, not_true_eq_false, not_false_eq_true]
      rw [e, nq.2 0 (by decide) (by decide) (by decide), cnt, if_neg (show ¬ y < 0 by rw [Int32.lt_iff_toInt_lt]; omega)]
      have l := (le_pred r.1 hN).1
      by_cases c : am_upI A3 18 (0 : Int32).toNatClampNeg v 0 0 ≤ y
      · rw [if_pos c, if_neg (l.mp c)]
      · rw [if_neg c, if_pos (Classical.not_not.mp (fun z => c (l.mpr z)))]) with ⟨Z2, A4, t1, t2, t3⟩ | ⟨v2, Zo2, A4, q2, t1, t2, t3, t4, t4', t5, t6, t7, t8, t9, t10, t11⟩
    · right
      refine ⟨Z2, A4, ?_, ?_, t3.more (by omega)⟩
      · rw [r1, Option.bind_some]
        dsimp only
        rw [t1, Option.bind_some]
        exact if_pos t3.nf
      · rw [r2]
        exact t2
    · left
      have cc := xcell (a := v) (by omega)
      have g := (cell_in cc).1
      have top : v2.toInt < (am_upI A4 18 (1 : Int32).toNatClampNeg v2 0 0).toInt := by
        have e : am_upI A4 18 (1 : Int32).toNatClampNeg v2 0 0 = A4 0 0 := congrFun (am_upI_ne (by decide)) 0
        rw [e, t4']
        rw [cnt, (le_pred t7.1 hN).2] at t6
        omega
      have tie := t3.1.row5 (k := v.toNatClampNeg) (v := v2) ⟨by omega, top⟩ (cell_lt cc)
      have dr : DX1_planFor Zo2 J 12 v v2 = some (0, am_bb Zo2 (am_upI (am_vw Zo2) 8 v.toNatClampNeg v2), J) := by
        have := bk_plan (X := Zo2) (Y := am_vw Zo2) (J := J) (a := v) (v := v2)
        rw [bk_vw] at this
        rw [this]
        unfold DX1_planFor
        rw [if_neg cc, if_pos g]
        rfl
      have e0 : am_upI A4 18 (1 : Int32).toNatClampNeg v2 18 (0 : Int32).toNatClampNeg = v := by
        rw [am_upI_no (by decide), t4]
        exact am_upI_yes
      have e1 : am_upI A4 18 (1 : Int32).toNatClampNeg v2 18 (1 : Int32).toNatClampNeg = v2 := am_upI_yes
      refine ⟨_, am_upI (am_upI A4 18 (1 : Int32).toNatClampNeg v2) 7 v.toNatClampNeg v2, q2, ?_, ?_, deed t3 ((am_Fx.me _).up (by decide)) (tie.more (by omega)) ((am_Fm.me _).up (by decide)) (fun _ _ _ => congrFun (am_upI_ne (by decide)) _), by omega, t9⟩
      · rw [r1, Option.bind_some]
        dsimp only
        rw [t1, Option.bind_some]
        dsimp only
        rw [if_neg (not_not_intro t3.2.2.2.2.2.1), dr, Option.bind_some]
      · rw [r2]
        exact t2.trans (by
          rw [show (1 : Int32) + 1 = 2 from rfl, LX8_item_s, if_pos (by decide)]
          simp +decide only [if_true, if_false]
          rw [e0, e1, if_pos g])
theorem item_side {s n : Nat} {Y0 : am_mI} {H : am_mI} {u : Nat} {J : am_mJ} {B : am_mJ} {Z A1 : am_mI} {p : Nat} (hs : s < 8) (hn : n ≤ 160) (h : am_Rd s n Y0 H u J B Z A1 p (p + 1)) (hp : p < n) (hb : am_lt B s n p = 32) : am_IR s n Y0 H u J B p (DX5_readSide Z J 12) (LX8_item am_FU A1 B 4 1 0) := by
  obtain ⟨m, em⟩ := am_FU4
  have v0 : (0 : Int32).toInt = 0 := rfl
  have v2 : (2 : Int32).toInt = 2 := rfl
  rw [em]
  unfold DX5_readSide
  rcases num_step (lo := 0) (hi := 2) h (num_first hs hn h.2.1 h.2.2.2.1 hp h.2.2.2.2.2.1 hb h.2.2.1 h.2.2.2.2.1 (m := m + 1 + 1 + 1) (w := 4) (c := 1) (by decide)) (by
    intro A3 v nq e r
    unfold DX8_isSo
    simp +decide only [if_true, if_false]
    rw [e, if_neg (show ¬ v < 0 by rw [Int32.lt_iff_toInt_lt]; omega)]
    by_cases c : (2 : Int32) < v
    · rw [if_pos c, if_neg (show ¬ v ≤ 2 by rw [Int32.lt_iff_toInt_lt] at c; rw [Int32.le_iff_toInt_le]; omega)]
    · rw [if_neg c, if_pos (show v ≤ 2 by rw [Int32.lt_iff_toInt_lt] at c; rw [Int32.le_iff_toInt_le]; omega)]) with ⟨Z2, A3, r1, r2, r3⟩ | ⟨v, Zo, A3, q, r1, r2, r3, r4, r4', r5, r6, r7, r8, r9, r10, r11⟩
  · right
    refine ⟨Z2, A3, ?_, r2, r3.more (by omega)⟩
    rw [r1, Option.bind_some]
    exact if_pos r3.nf
  · left
    have tie := r3.1.side (v := v) (by omega)
    have dr : DX1_turnTo Zo J 12 v = some (0, am_bb Zo (am_upI (am_vw Zo) 2 10 v), J) := by
      have := bk_turn (X := Zo) (Y := am_vw Zo) (J := J) (v := v)
      rw [bk_vw] at this
      rw [this]
      rfl
    have e0 : am_upI A3 18 (0 : Int32).toNatClampNeg v 18 (0 : Int32).toNatClampNeg = v := am_upI_yes
    refine ⟨_, am_upI (am_upI A3 18 (0 : Int32).toNatClampNeg v) 0 1 v, q, ?_, ?_, deed r3 ((am_Fx.me _).up (by decide)) (tie.more (by omega)) ((am_Fm.me _).up (by decide)) (fun i h1 _ => am_upI_no (by omega)), by omega, r9⟩
    · rw [r1, Option.bind_some]
      dsimp only
      rw [if_neg (not_not_intro r3.2.2.2.2.2.1), dr, Option.bind_some]
    · rw [r2, show (0 : Int32) + 1 = 1 from rfl, LX8_item_s, if_pos (by decide)]
      simp +decide only [if_true, if_false]
      rw [e0]
theorem item_hours {s n : Nat} {Y0 : am_mI} {H : am_mI} {u : Nat} {J : am_mJ} {B : am_mJ} {Z A1 : am_mI} {p : Nat} (hu : u + 1000 ≤ 61440000) (hs : s < 8) (hn : n ≤ 160) (h : am_Rd s n Y0 H u J B Z A1 p (p + 1)) (hp : p < n) (hb : am_lt B s n p = 32) : am_IR s n Y0 H u J B p (DX5_readHours Z J 12) (LX8_item am_FU A1 B 6 1 0) := by
  obtain ⟨m, em⟩ := am_FU4
  have v0 : (0 : Int32).toInt = 0 := rfl
  have v1 : (1 : Int32).toInt = 1 := rfl
  have v99 : (99 : Int32).toInt = 99 := rfl
  rw [em]
  unfold DX5_readHours
  rcases num_step (lo := 1) (hi := 99) h (num_first hs hn h.2.1 h.2.2.2.1 hp h.2.2.2.2.2.1 hb h.2.2.1 h.2.2.2.2.1 (m := m + 1 + 1 + 1) (w := 6) (c := 1) (by decide)) (by
    intro A3 v nq e r
    unfold DX8_isSo
    simp +decide only [if_true, if_false]
    rw [e]
    by_cases c : v < 1
    · rw [if_pos c, if_pos c]
    · rw [if_neg c, if_neg c, if_pos (show v ≤ 99 by rw [Int32.le_iff_toInt_le]; omega)]) with ⟨Z2, A3, r1, r2, r3⟩ | ⟨v, Zo, A3, q, r1, r2, r3, r4, r4', r5, r6, r7, r8, r9, r10, r11⟩
  · right
    refine ⟨Z2, A3, ?_, r2, r3.more (by omega)⟩
    rw [r1, Option.bind_some]
    exact if_pos r3.nf
  · left
    have e0 : am_upI A3 18 (0 : Int32).toNatClampNeg v 18 (0 : Int32).toNatClampNeg = v := am_upI_yes
    obtain ⟨Y, A4, y1, y2, y3, y4, y5, y6⟩ := goesAs r3.1 (n := v) (by omega) (by omega) hu
    have dr : DX1_passHours Zo J 12 v = some (0, am_bb Zo Y, J) := by
      have := bk_pass (X := Zo) (Y := am_vw Zo) (J := J) (m := v)
      rw [bk_vw] at this
      rw [this, y1]
      rfl
    refine ⟨_, A4, q, ?_, ?_, deed r3 y4 (y3.more (by omega)) y5 (fun i h1 _ => y6 i (by omega)), by omega, r9⟩
    · rw [r1, Option.bind_some]
      dsimp only
      rw [if_neg (not_not_intro r3.2.2.2.2.2.1), dr, Option.bind_some]
    · rw [r2, show (0 : Int32) + 1 = 1 from rfl, LX8_item_s, if_pos (by decide)]
      simp +decide only [if_true, if_false]
      rw [e0, y2, Option.bind_some]
theorem item_spray {s n : Nat} {Y0 : am_mI} {H : am_mI} {u : Nat} {J : am_mJ} {B : am_mJ} {Z A1 : am_mI} {p : Nat} (hu : u + 1000 ≤ 61440000) (h : am_Rd s n Y0 H u J B Z A1 p p) : ∃ (Y A2 : am_mI), DX1_sprayOnce Z J 12 = some (0, am_bb Z Y, J) ∧ LX8_item am_FU A1 B 5 0 0 = some (1, A2, B) ∧ am_Rd s n Y0 H (u + 99) J B (am_bb Z Y) A2 p p := by
  obtain ⟨m, em⟩ := am_FU4
  obtain ⟨Y, A2, y1, y2, y3, y4, y5, y6⟩ := sprayAs (t := u) (by omega) h.1
  have dr : DX1_sprayOnce Z J 12 = some (0, am_bb Z Y, J) := by
    have := bk_spray (X := Z) (Y := am_vw Z) (J := J)
    rw [bk_vw] at this
    rw [this, y1]
    rfl
  refine ⟨Y, A2, dr, ?_, deed h y4 (y3.more (by omega)) y5 (fun i h1 _ => y6 i (by omega))⟩
  rw [em, LX8_item_s, if_pos (by decide)]
  simp +decide only [if_true, if_false]
  rw [y2, Option.bind_some]
theorem xroom {u : Nat} {J : am_mJ} {B : am_mJ} {Z A1 : am_mI} (h : am_Iv u (am_vw Z) J A1 B) : (A1 0 0 = 8 → DX1_hasRoom Z 12 = 0) ∧ (¬ A1 0 0 = 8 → ¬ DX1_hasRoom Z 12 = 0 ∧ (A1 0 0).toInt < 8) := by
  have e : Z 12 3 = A1 0 0 := h.bd.n0
  have hN := h.nn
  have v8 : (8 : Int32).toInt = 8 := rfl
  have v0 : (0 : Int32).toInt = 0 := rfl
  unfold DX1_hasRoom
  rw [e, if_neg (show ¬ A1 0 0 < 0 by rw [Int32.lt_iff_toInt_lt]; omega)]
  refine ⟨fun z => ?_, fun z => ?_⟩
  · rw [if_pos (show (8 : Int32) ≤ A1 0 0 by rw [z]; decide)]
  · have lt : (A1 0 0).toInt < 8 := by
      have : (A1 0 0).toInt ≠ (8 : Int32).toInt := fun f => z (Int32.toInt_inj.mp f)
      omega
    rw [if_neg (show ¬ (8 : Int32) ≤ A1 0 0 by rw [Int32.le_iff_toInt_le]; omega)]
    exact ⟨by decide, lt⟩
theorem item_stuff {s n : Nat} {Y0 : am_mI} {H : am_mI} {u : Nat} {J : am_mJ} {B : am_mJ} {Z A1 : am_mI} {p : Nat} (hs : s < 8) (hn : n ≤ 160) (h : am_Rd s n Y0 H u J B Z A1 p (p + 1)) (hp : p < n) (hb : am_lt B s n p = 32) (room : ¬ A1 0 0 = 8) (a0 : Int32) : am_IR s n Y0 H u J B p (DX5_readStuff Z J 12 a0) (LX8_item am_FU A1 B 0 3 0) := by
  obtain ⟨m, em⟩ := am_FU4
  have v0 : (0 : Int32).toInt = 0 := rfl
  have v6 : (6 : Int32).toInt = 6 := rfl
  have v7 : (7 : Int32).toInt = 7 := rfl
  have v9 : (9 : Int32).toInt = 9 := rfl
  rw [em]
  unfold DX5_readStuff
  rw [if_pos ((xroom h.1).2 room).1]
  rcases num_step (lo := 0) (hi := 6) h (num_first hs hn h.2.1 h.2.2.2.1 hp h.2.2.2.2.2.1 hb h.2.2.1 h.2.2.2.2.1 (m := m + 1 + 1 + 1) (w := 0) (c := 3) (by decide)) (by
    intro A3 v nq e r
    unfold DX8_isSo
    simp +decide only [if_true, if_false]
    rw [e, if_neg (show ¬ v < 0 by rw [Int32.lt_iff_toInt_lt]; omega)]
    by_cases c : (6 : Int32) < v
    · rw [if_pos c, if_neg (show ¬ v ≤ 6 by rw [Int32.lt_iff_toInt_lt] at c; rw [Int32.le_iff_toInt_le]; omega)]
    · rw [if_neg c, if_pos (show v ≤ 6 by rw [Int32.lt_iff_toInt_lt] at c; rw [Int32.le_iff_toInt_le]; omega)]) with ⟨Z2, A3, r1, r2, r3⟩ | ⟨v, Zo, A3, q, r1, r2, r3, r4, r4', r5, r6, r7, r8, r9, r10, r11⟩
  · right
    refine ⟨Z2, A3, ?_, r2, r3.more (by omega)⟩
    rw [r1, Option.bind_some]
    dsimp only
    rw [xskip r3.nf, Option.bind_some]
    dsimp only
    rw [xskip r3.nf, Option.bind_some]
    exact if_pos r3.nf
  · rcases num_step (lo := 0) (hi := 7) r3 (num_next hs hn r3.2.1 r3.2.2.2.1 r9 r3.2.2.2.2.2.1 r3.2.2.1 r3.2.2.2.2.1 (m := m + 1 + 1) (w := 0) (c := 3) (x3 := 1) (by decide) (Or.inl rfl)) (by
      intro A3 v nq e r
      unfold DX8_isSo
      simp +decide only [if_true, if_false, not_true_eq_false, not_false_eq_true]
      rw [e, if_neg (show ¬ v < 0 by rw [Int32.lt_iff_toInt_lt]; omega)]
      by_cases c : (7 : Int32) < v
      · rw [if_pos c, if_neg (show ¬ v ≤ 7 by rw [Int32.lt_iff_toInt_lt] at c; rw [Int32.le_iff_toInt_le]; omega)]
      · rw [if_neg c, if_pos (show v ≤ 7 by rw [Int32.lt_iff_toInt_lt] at c; rw [Int32.le_iff_toInt_le]; omega)]) with ⟨Z2, A4, t1, t2, t3⟩ | ⟨v2, Zo2, A4, q2, t1, t2, t3, t4, t4', t5, t6, t7, t8, t9, t10, t11⟩
    · right
      refine ⟨Z2, A4, ?_, ?_, t3.more (by omega)⟩
      · rw [r1, Option.bind_some]
        dsimp only
        rw [t1, Option.bind_some]
        dsimp only
        rw [xskip t3.nf, Option.bind_some]
        exact if_pos t3.nf
      · rw [r2]
        exact t2
    · rcases num_step (lo := 0) (hi := 9) t3 (num_next hs hn t3.2.1 t3.2.2.2.1 t9 t3.2.2.2.2.2.1 t3.2.2.1 t3.2.2.2.2.1 (m := m + 1) (w := 0) (c := 3) (x3 := 2) (by decide) (Or.inr rfl)) (by
        intro A3 v nq e r
        unfold DX8_isSo
        simp +decide only [if_true, if_false, not_true_eq_false, not_false_eq_true]
        rw [e, if_neg (show ¬ v < 0 by rw [Int32.lt_iff_toInt_lt]; omega)]
        by_cases c : (9 : Int32) < v
        · rw [if_pos c, if_neg (show ¬ v ≤ 9 by rw [Int32.lt_iff_toInt_lt] at c; rw [Int32.le_iff_toInt_le]; omega)]
        · rw [if_neg c, if_pos (show v ≤ 9 by rw [Int32.lt_iff_toInt_lt] at c; rw [Int32.le_iff_toInt_le]; omega)]) with ⟨Z2, A5, y1, y2, y3⟩ | ⟨v3, Zo3, A5, q3, y1, y2, y3, y4, y4', y5, y6, y7, y8, y9, y10, y11⟩
      · right
        refine ⟨Z2, A5, ?_, ?_, y3.more (by omega)⟩
        · rw [r1, Option.bind_some]
          dsimp only
          rw [t1, Option.bind_some]
          dsimp only
          rw [y1, Option.bind_some]
          exact if_pos y3.nf
        · rw [r2, show (0 : Int32) + 1 = 1 from rfl, t2]
          exact y2
      · left
        have e2 : am_upI A5 18 (2 : Int32).toNatClampNeg v3 18 (2 : Int32).toNatClampNeg = v3 := am_upI_yes
        have e1 : am_upI A5 18 (2 : Int32).toNatClampNeg v3 18 (1 : Int32).toNatClampNeg = v2 := by
          rw [am_upI_no (by decide), y4]
          exact am_upI_yes
        have e0 : am_upI A5 18 (2 : Int32).toNatClampNeg v3 18 (0 : Int32).toNatClampNeg = v := by
          rw [am_upI_no (by decide), y4, am_upI_no (by decide), t4]
          exact am_upI_yes
        have r00 : (am_upI A5 18 (2 : Int32).toNatClampNeg v3 0 0).toInt < 8 := by
          have x1 : am_upI A5 18 (2 : Int32).toNatClampNeg v3 0 0 = A5 0 0 := congrFun (am_upI_ne (by decide)) 0
          have x2 : am_upI A4 18 (1 : Int32).toNatClampNeg v2 0 0 = A4 0 0 := congrFun (am_upI_ne (by decide)) 0
          have x3 : am_upI A3 18 (0 : Int32).toNatClampNeg v 0 0 = A3 0 0 := congrFun (am_upI_ne (by decide)) 0
          rw [x1, y4', x2, t4', x3, r4']
          exact ((xroom h.1).2 room).2
        obtain ⟨Y, A6, d1, d2, d3, d4, d5, d6, d7⟩ := addAs y3.1 r00 (a := v) (b := v2) (c := v3) (by omega) (by omega) (by omega)
        have dr : DX1_addStuff Zo3 J 12 v v2 v3 = some (am_upI A5 18 (2 : Int32).toNatClampNeg v3 0 0, am_bb Zo3 Y, J) := by
          have := bk_add (X := Zo3) (Y := am_vw Zo3) (J := J) (a := v) (b := v2) (c := v3)
          rw [bk_vw] at this
          rw [this, d1]
          rfl
        refine ⟨_, A6, q3, ?_, ?_, deed y3 d4 (d3.more (by omega)) d5 (fun i h1 _ => d7 i (by omega)), by omega, y9⟩
        · rw [r1, Option.bind_some]
          dsimp only
          rw [t1, Option.bind_some]
          dsimp only
          rw [y1, Option.bind_some]
          dsimp only
          rw [if_neg (not_not_intro y3.2.2.2.2.2.1), dr, Option.bind_some]
        · rw [r2, show (0 : Int32) + 1 = 1 from rfl, t2, show (1 : Int32) + 1 = 2 from rfl, y2, show (2 : Int32) + 1 = 3 from rfl, LX8_item_s, if_pos (by decide)]
          simp +decide only [if_true, if_false]
          rw [e0, e1, e2, d2, Option.bind_some]
theorem item_lay {s n : Nat} {Y0 : am_mI} {H : am_mI} {u : Nat} {J : am_mJ} {B : am_mJ} {Z A1 : am_mI} {p : Nat} (hs : s < 8) (hn : n ≤ 160) (h : am_Rd s n Y0 H u J B Z A1 p (p + 1)) (hp : p < n) (hb : am_lt B s n p = 32) : am_IR s n Y0 H u J B p (DX5_readLaying Z J 12) (LX8_item am_FU A1 B 3 2 0) := by
  obtain ⟨m, em⟩ := am_FU4
  have v0 : (0 : Int32).toInt = 0 := rfl
  have v23 : (23 : Int32).toInt = 23 := rfl
  have v24 : (24 : Int32).toInt = 24 := rfl
  have h7 := h.2.2.2.2.2.2
  rw [em]
  unfold DX5_readLaying
  have off : ∀ (Zf A3 : am_mI), DX5_readNumber Z J 0 23 = some (-1, Zf, J) → am_Fd Y0 H u J B Zf A3 → LX8_item (m + 1 + 1 + 1 + 1) A1 B 3 2 0 = some (0, A3, B) → am_IR s n Y0 H u J B p (DX5_readLaying Z J 12) (LX8_item (m + 1 + 1 + 1 + 1) A1 B 3 2 0) := by
    intro Zf A3 r1 r3 r2
    right
    refine ⟨Zf, A3, ?_, r2, r3.more (by omega)⟩
    unfold DX5_readLaying
    rw [r1, Option.bind_some]
    dsimp only
    rw [if_pos r3.nf, xskip r3.nf, Option.bind_some]
    exact if_pos r3.nf
  unfold DX5_readLaying at off
  rcases num_first hs hn h.2.1 h.2.2.2.1 hp h.2.2.2.2.2.1 hb h.2.2.1 h.2.2.2.2.1 (J := J) (m := m + 1 + 1 + 1) (w := 3) (c := 2) (by decide) with ⟨Z2, A3, a1, a2, a3, a4, a5, a6⟩ | ⟨v, e, q, Zo, Zn, A3, a1, a2, a3, a4, a5, a6, a7, a8, a9, a10, a11, a12, a13, ⟨pp, p1, p2, p3⟩, a14⟩
  · exact off Z2 A3 (a1 0 23) ⟨mid_tie h.1 a2 a3, a4, a5, h7.mid a2 a3⟩ a6
  · have nq : am_Nq A1 (am_upI A3 18 (0 : Int32).toNatClampNeg v) := a10.q.tell
    have nf : DX8_isSo A3 3 0 = some 0 → LX8_item (m + 1 + 1 + 1 + 1) A1 B 3 2 0 = some (0, am_upI A3 0 29 e, B) := by
      intro t
      rw [a14, t, Option.bind_some, if_neg (show ¬ ¬ (0 : Int32) = 0 from fun f => f rfl)]
    have noX : ¬ v < 0 := by
      rw [Int32.lt_iff_toInt_lt]
      omega
    by_cases c : (24 : Int32) ≤ v
    · refine off Zn (am_upI A3 0 29 e) ?_ ⟨mid_tie h.1 a4 (a10.q.up (by decide)), ?_, ?_, h7.mid a4 (a10.q.up (by decide))⟩ (nf ?_)
      · rw [a2, if_neg noX, if_neg (show ¬ v ≤ 23 by rw [Int32.le_iff_toInt_le] at c ⊢; omega)]
      · rw [a8, am_upI_yes]
      · rw [a8]
        exact a9
      · unfold DX8_isSo
        simp +decide only [if_true, if_false, not_true_eq_false, not_false_eq_true]
        rw [a11, if_pos c]
    · have le : v ≤ 23 := by
        rw [Int32.le_iff_toInt_le] at c ⊢
        omega
      have le2 := le
      rw [Int32.le_iff_toInt_le] at le2
      have cc := xcell (a := v) (by omega)
      have g := (cell_in cc).1
      have tie3 := mid_tie h.1 a3 a10.q
      obtain ⟨r, may1, may2⟩ := mayAs tie3 cc
      have mayX : DX1_mayBeLaid Zo 12 v = some r := by
        have := bk_may (X := Zo) (Y := am_vw Zo) (a := v)
        rw [bk_vw] at this
        rw [this]
        exact may1
      have so : DX8_isSo A3 3 0 = some (if r = 0 then 0 else 1) := by
        unfold DX8_isSo
        simp +decide only [if_true, if_false, not_true_eq_false, not_false_eq_true]
        rw [a11, if_neg c, may2, Option.bind_some]
        by_cases z : r = 0
        · rw [if_pos z, if_pos z]
        · rw [if_neg z, if_neg z]
      have rd : DX5_readNumber Z J 0 23 = some (v, Zo, J) := by
        rw [a2, if_neg noX, if_pos le]
      rw [rd, Option.bind_some]
      dsimp only
      rw [if_neg (not_not_intro a7), mayX, Option.bind_some]
      by_cases z : r = 0
      · rw [if_pos z] at so
        have e1 : Z 32 2 + 1 = e := by
          apply Int32.toInt_inj.mp
          rw [i32_succ (n := 10000) (by omega) (by omega) (by omega)]
          omega
        right
        have nn : ¬ am_upI Zo 32 3 e 32 3 = -1 := by
          rw [am_upI_yes]
          intro f
          rw [f] at a9
          exact absurd a9 (by decide)
        refine ⟨am_upI Zo 32 3 e, am_upI A3 0 29 e, ?_, nf so, (mid_tie h.1 a3.up (a10.q.up (by decide))).more (by omega), ?_, ?_, h7.mid a3.up (a10.q.up (by decide))⟩
        · rw [if_neg (not_not_intro z), xfail a7, Option.bind_some, e1]
          dsimp only
          rw [xskip nn, Option.bind_some]
          exact if_pos nn
        · rw [am_upI_yes, am_upI_yes]
        · rw [am_upI_yes]
          exact a9
      · rw [if_neg z] at so
        rw [if_pos z]
        have r2 : LX8_item (m + 1 + 1 + 1 + 1) A1 B 3 2 0 = LX8_item (m + 1 + 1 + 1) (am_upI A3 18 (0 : Int32).toNatClampNeg v) B 3 2 (0 + 1) := by
          rw [a14, so, Option.bind_some, if_pos (show ¬ (1 : Int32) = 0 by decide)]
        have r3 : am_Rd s n Y0 H u J B Zo (am_upI A3 18 (0 : Int32).toNatClampNeg v) q q := ⟨mid_tie h.1 a3 nq, a5, h.2.2.1.nq nq, a6, by rw [am_upI_ne (by decide)]; exact a12, a7, h7.mid a3 nq⟩
        have cnt := xcount r3.1
        have hN := r3.1.nn
        have pq : p < q := by
          have := h.2.2.2.1
          omega
        rcases num_step (lo := 0) (hi := DX1_stuffCount Zo 12 - 1) r3 (num_next hs hn r3.2.1 r3.2.2.2.1 a13 r3.2.2.2.2.2.1 r3.2.2.1 r3.2.2.2.2.1 (m := m + 1 + 1) (w := 3) (c := 2) (x3 := 1) (by decide) (Or.inl rfl)) (by
          intro A4 y nq e r
          unfold DX8_isSo
          simp +decide only [if_true, if_false, not_true_eq_false, not_false_eq_true]
          rw [e, nq.2 0 (by decide) (by decide) (by decide), cnt, if_neg (show ¬ y < 0 by rw [Int32.lt_iff_toInt_lt]; omega)]
          have l := (le_pred r.1 hN).1
          by_cases c : am_upI A3 18 (0 : Int32).toNatClampNeg v 0 0 ≤ y
          · rw [if_pos c, if_neg (l.mp c)]
          · rw [if_neg c, if_pos (Classical.not_not.mp (fun z => c (l.mpr z)))]) with ⟨Z2, A4, t1, t2, t3⟩ | ⟨v2, Zo2, A4, q2, t1, t2, t3, t4, t4', t5, t6, t7, t8, t9, t10, t11⟩
        · right
          refine ⟨Z2, A4, ?_, ?_, t3.more (by omega)⟩
          · rw [t1, Option.bind_some]
            exact if_pos t3.nf
          · rw [r2]
            exact t2
        · left
          have top : v2.toInt < (am_upI A4 18 (1 : Int32).toNatClampNeg v2 0 0).toInt := by
            have e : am_upI A4 18 (1 : Int32).toNatClampNeg v2 0 0 = A4 0 0 := congrFun (am_upI_ne (by decide)) 0
            rw [e, t4']
            rw [cnt, (le_pred t7.1 hN).2] at t6
            omega
          obtain ⟨Y, A5, d1, d2, d3, d4, d5, d6⟩ := putsAs t3.1 cc (v := v2) ⟨by omega, top⟩
          have dr : DX1_layOn Zo2 J 12 v v2 = some (0, am_bb Zo2 Y, J) := by
            have := bk_lay (X := Zo2) (Y := am_vw Zo2) (J := J) (a := v) (v := v2)
            rw [bk_vw] at this
            unfold DX1_layOn
            rw [this, d1]
            rfl
          have e0 : am_upI A4 18 (1 : Int32).toNatClampNeg v2 18 (0 : Int32).toNatClampNeg = v := by
            rw [am_upI_no (by decide), t4]
            exact am_upI_yes
          have e1 : am_upI A4 18 (1 : Int32).toNatClampNeg v2 18 (1 : Int32).toNatClampNeg = v2 := am_upI_yes
          refine ⟨_, A5, q2, ?_, ?_, deed t3 d4 (d3.more (by omega)) d5 (fun i _ _ => congrFun d6 i), by omega, t9⟩
          · rw [t1, Option.bind_some]
            dsimp only
            rw [if_neg (not_not_intro t3.2.2.2.2.2.1), dr, Option.bind_some]
          · rw [r2]
            exact t2.trans (by
              rw [show (1 : Int32) + 1 = 2 from rfl, LX8_item_s, if_pos (by decide)]
              simp +decide only [if_true, if_false]
              rw [e0, e1, d2, Option.bind_some])
