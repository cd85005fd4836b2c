/-! THE LAW'S STEPS: loads of the script's ints, the two calls, their comparison -/
def lw_St (s : State) (ex : Nat → Value) (cI cJ cS : ClassId) (dC : Nat → ClassId) (dI : Nat → Nat → Nat) (B : Nat) (I : am_mI) (J : am_mJ) (A : am_mI) (K : am_mJ) (H : Heap) (locs : List Loc) : Prop :=
  s.heap.size ≤ B ∧ va_P (dC, dI) vwCl (ar_W B ex cI cJ cS (TX, I, J, RX)) H ∧ va_P (dC, dI) vwCl (ar_W (B + 57) ex cI cJ cS (TM, A, K, RM)) H ∧ va_S (fun q => s.heap.size ≤ q) s.heap H locs
abbrev lw_at5 (pc j : Nat) : Prop := decode code pc = .ok (.aload_n 0, 1) ∧ decode code (pc + 1) = .ok (.iload_n 3, 1) ∧ decode code (pc + 2) = .ok (.iconst (j : Int), 1) ∧ decode code (pc + 3) = .ok (.iadd, 1) ∧ decode code (pc + 4) = .ok (.iaload, 1)
def lw_as (xs : Nat → Int32) : Nat → Nat → List Value
  | 0, _ => []
  | k + 1, o => .int (xs o) :: lw_as xs k (o + 1)
theorem lw_as_len (xs : Nat → Int32) : ∀ (k o : Nat), (lw_as xs k o).length = k
  | 0, _ => rfl
  | k + 1, o => by rw [lw_as, List.length_cons, lw_as_len xs k]
theorem lw_as_map (xs : Nat → Int32) (B : Nat) (ex : Nat → Value) : ∀ (k o : Nat), (lw_as xs k o).map (ar_v B ex) = lw_as xs k o
  | 0, _ => rfl
  | k + 1, o => by rw [lw_as, List.map_cons, lw_as_map xs B ex k]; rfl
theorem lw_as_ws (xs : Nat → Int32) : ∀ (k o : Nat), am_ws (lw_as xs k o) = k
  | 0, _ => rfl
  | k + 1, o => by show am_ws (lw_as xs k (o + 1)) + 1 = k + 1; rw [lw_as_ws xs k]
theorem lw_small : ∀ j : Nat, j < 6 → Int32.ofInt (j : Int) = nI j := by decide
section LWS
variable {p : Program} {l : Launch} {e : Env} {s : State} {m : MethodId} {below : List Frame} {meth : Method} {c : Code} {b L : Nat} {xs : Nat → Int32} {ex : Nat → Value} {cI cJ cS : ClassId} {dC : Nat → ClassId} {dI : Nat → Nat → Nat} {H : Heap} {locs : List Loc} {cells slots pc : Nat} {ls : Array Slot} {B : Nat} {Q : State → Prop}
theorem lw_args (C : lw_Cx p s m meth c b L xs ex cI cJ cS dC dI) (hL : L ≤ 3072) (hS : va_S (fun q => s.heap.size ≤ q) s.heap H locs) {i : Nat} (hi : i + 6 ≤ L) (h0 : ls[0]? = some (.val (.ref b))) (h3 : ls[3]? = some (.val (.int (nI i)))) : ∀ (k j pc : Nat) (rest : List Value), (∀ q, q < k → lw_at5 (pc + 5 * q) (j + q)) → j + k ≤ 6 →
    W p l e room_1 s m #[Value.ref b] below meth c H locs cells slots Q (F0 m (pc + 5 * k) ls ((lw_as xs k (i + j)).reverse ++ rest)) → W p l e room_1 s m #[Value.ref b] below meth c H locs cells slots Q (F0 m pc ls rest) := by
  obtain ⟨⟨hx, hb, hr, hml, hown, hts, hX, hbl, hlocks, hgv⟩, hK, hE⟩ := C
  intro k
  induction k with
  | zero => intro j pc rest _ _ kk; exact kk
  | succ k ih =>
    intro j pc rest hd hj kk
    obtain ⟨d0, d1, d2, d3, d4⟩ := hd 0 (Nat.succ_pos k)
    simp only [Nat.mul_zero, Nat.add_zero] at d0 d1 d2 d3 d4
    refine lv_aload_n hx hb d0 rfl h0 ?_
    refine lv_iload_n hx hb d1 rfl h3 ?_
    refine lv_iconst (v := nI j) hx hb d2 (lw_small j (by omega)) ?_
    refine lv_iadd hx hb d3 ?_
    rw [nI_add]
    refine va_sld hx hb hX hbl (Nat.not_le.mpr hbl) hS (vp_in_nI (by omega) (by omega)) d4 ?_
    rw [nI_clamp (by omega)]
    refine ih (j + 1) (pc + 5) _ (fun q hq => ?_) (by omega) ?_
    · have h := hd (q + 1) (by omega)
      rw [show pc + 5 * (q + 1) = pc + 5 + 5 * q by omega, show j + (q + 1) = j + 1 + q by omega] at h
      exact h
    · rw [show pc + 5 + 5 * k = pc + 5 * (k + 1) by omega, show i + (j + 1) = i + j + 1 by omega]
      rw [lw_as, List.reverse_cons, List.append_assoc] at kk
      exact kk
abbrev lw_ok (y jx ci k w : Nat) : Prop := y < am_N ∧ (am_mt y).2.2.2.2.getD 0 9 = 1 ∧ (am_mt y).1.cls = ar_C ci ∧ (am_mt y).2.2.2.2.getD 1 0 = k ∧ w + 1 ≤ (am_mt y).2.2.1 ∧ Cond.methodLink R_law jx (am_mt y).1 ∈ lw_tbl
theorem lw_callX (C : lw_Cx p s m meth c b L xs ex cI cJ cS dC dI) {y jx k d : Nat} {as rest : List Value} {lv : List (Nat × Value)} {v : Option Value} {I I' : am_mI} {J J' : am_mJ} {A : am_mI} {K : am_mJ} (hy : lw_ok y jx 5 k (am_ws as)) (hk : as.length = k) (hm : as.map (ar_v B ex) = as) (hv : v.map (ar_v B ex) = v) (hd : d ≤ 60) (hrun : am_F d y (am_loc (am_mt y).2.2.1 (.ref 0 :: as)) (TX, I, J, RX) v (TX, I', J', RX)) (hSt : lw_St s ex cI cJ cS dC dI B I J A K H locs) (hl : lv_has ls 4 lv) (hrest : (rest.map fun v => v.category).sum ≤ 8) (hcells : cells ≤ 600000 ∧ slots ≤ 7302250) (hdg : decode code pc = .ok (.invokevirtual jx, 3))
    (kk : ∀ (H1 : Heap) (locs1 : List Loc), lw_St s ex cI cJ cS dC dI B I' J' A K H1 locs1 → W p l e room_1 s m #[Value.ref b] below meth c H1 locs1 cells slots Q (F0 m (pc + 3) ls (v.toList ++ rest))) :
    W p l e room_1 s m #[Value.ref b] below meth c H locs cells slots Q (F0 m pc ls (as.reverse ++ .ref B :: rest)) := by
  obtain ⟨hB, hP, hPm, hS⟩ := hSt
  obtain ⟨N, v', M', hr, rfl, rfl⟩ := hrun
  have hkk := lw_call (Q := Q) (rest := rest) (B := B) (n := 10) C hy.1 hy.2.1 (by decide) hy.2.2.1 rfl (by rw [hk]; exact hy.2.2.2.1) (by show am_ws as + 1 ≤ _; exact hy.2.2.2.2.1) (by show _ ≤ 900; exact (by decide : TX.length ≤ 900)) hy.2.2.2.2.2 hr hd hB hP hS hl hrest hcells hdg (fun H1 locs1 hP1 hz hkp hS1 => by
    rw [hv]
    refine kk H1 locs1 ⟨hB, hP1, hPm.kept (fun k q hq => hkp q.1 (hPm k q hq).lt (fun z => ?_)), hS1⟩
    have h1 := ar_W_key hq
    have h2 := (hPm k q hq).lt
    rcases ar_W_far z with ⟨h, h'⟩ | h
    · have h'' : q.1 < B + 57 := h'
      omega
    · omega)
  rw [hm] at hkk
  exact hkk
theorem lw_callM (C : lw_Cx p s m meth c b L xs ex cI cJ cS dC dI) {y jx k d : Nat} {as rest : List Value} {lv : List (Nat × Value)} {v : Option Value} {A A' : am_mI} {K K' : am_mJ} {I : am_mI} {J : am_mJ} (hy : lw_ok y jx 6 k (am_ws as)) (hk : as.length = k) (hm : as.map (ar_v (B + 57) ex) = as) (hv : v.map (ar_v (B + 57) ex) = v) (hd : d ≤ 60) (hrun : am_F d y (am_loc (am_mt y).2.2.1 (.ref 0 :: as)) (TM, A, K, RM) v (TM, A', K', RM)) (hSt : lw_St s ex cI cJ cS dC dI B I J A K H locs) (hl : lv_has ls 4 lv) (hrest : (rest.map fun v => v.category).sum ≤ 8) (hcells : cells ≤ 600000 ∧ slots ≤ 7302250) (hdg : decode code pc = .ok (.invokevirtual jx, 3))
    (kk : ∀ (H1 : Heap) (locs1 : List Loc), lw_St s ex cI cJ cS dC dI B I J A' K' H1 locs1 → W p l e room_1 s m #[Value.ref b] below meth c H1 locs1 cells slots Q (F0 m (pc + 3) ls (v.toList ++ rest))) :
    W p l e room_1 s m #[Value.ref b] below meth c H locs cells slots Q (F0 m pc ls (as.reverse ++ .ref (B + 57) :: rest)) := by
  obtain ⟨hB, hPx, hP, hS⟩ := hSt
  obtain ⟨N, v', M', hr, rfl, rfl⟩ := hrun
  have hkk := lw_call (Q := Q) (rest := rest) (B := B + 57) (n := 39) C hy.1 hy.2.1 (by decide) hy.2.2.1 rfl (by rw [hk]; exact hy.2.2.2.1) (by show am_ws as + 1 ≤ _; exact hy.2.2.2.2.1) (by show _ ≤ 900; exact (by decide : TM.length ≤ 900)) hy.2.2.2.2.2 hr hd (by omega) hP hS hl hrest hcells hdg (fun H1 locs1 hP1 hz hkp hS1 => by
    rw [hv]
    refine kk H1 locs1 ⟨hB, hPx.kept (fun k q hq => hkp q.1 (hPx k q hq).lt (fun z => ?_)), hP1, hS1⟩
    have h1 := ar_W_key hq
    have h2 := (hPx k q hq).lt
    have h3 : k < 57 := h1.2
    rcases ar_W_far z with ⟨h, h'⟩ | h
    · omega
    · omega)
  rw [hm] at hkk
  exact hkk
abbrev lw_dec (pc k jx jm : Nat) (off : Int) : Prop := decode code pc = .ok (.aload_n 1, 1) ∧ (∀ q, q < k → lw_at5 (pc + 1 + 5 * q) (1 + q)) ∧ decode code (pc + 1 + 5 * k) = .ok (.invokevirtual jx, 3) ∧ decode code (pc + 1 + 5 * k + 3) = .ok (.aload_n 2, 1) ∧ (∀ q, q < k → lw_at5 (pc + 1 + 5 * k + 3 + 1 + 5 * q) (1 + q)) ∧ decode code (pc + 1 + 5 * k + 3 + 1 + 5 * k) = .ok (.invokevirtual jm, 3) ∧ decode code (pc + 1 + 5 * k + 3 + 1 + 5 * k + 3) = .ok (.if_icmp .eq off, 3) ∧ ((pc + 1 + 5 * k + 3 + 1 + 5 * k + 3 : Nat) : Int) + off = (1517 : Nat)
/-- both answer alike -/
def lw_Rn (y z : Nat) (as : List Value) (I : am_mI) (J : am_mJ) (A : am_mI) (K : am_mJ) (t : Nat) : Prop := ∃ (d1 d2 : Nat) (r : Int32) (I' : am_mI) (J' : am_mJ) (A' : am_mI) (K' : am_mJ), d1 ≤ 60 ∧ d2 ≤ 60 ∧ am_F d1 y (am_loc (am_mt y).2.2.1 (.ref 0 :: as)) (TX, I, J, RX) (some (.int r)) (TX, I', J', RX) ∧ am_F d2 z (am_loc (am_mt z).2.2.1 (.ref 0 :: as)) (TM, A, K, RM) (some (.int r)) (TM, A', K', RM) ∧ am_Iv t I' J' A' K'
theorem lw_case (C : lw_Cx p s m meth c b L xs ex cI cJ cS dC dI) (hL : L ≤ 3072) {i : Nat} (hi : i + 6 ≤ L) {k pc jx jm y z t : Nat} {off : Int} {I : am_mI} {J : am_mJ} {A : am_mI} {K : am_mJ} (hd : lw_dec pc k jx jm off) (hk : k ≤ 5) (hy : lw_ok y jx 5 k k) (hz : lw_ok z jm 6 k k) (hSt : lw_St s ex cI cJ cS dC dI B I J A K H locs) (hl : lv_has ls 4 [(0, .ref b), (1, .ref B), (2, .ref (B + 57)), (3, .int (nI i))]) (hcells : cells ≤ 600000 ∧ slots ≤ 7302250) (hr : lw_Rn y z (lw_as xs k (i + 1)) I J A K t)
    (kk : ∀ (I' : am_mI) (J' : am_mJ) (A' : am_mI) (K' : am_mJ) (H1 : Heap) (locs1 : List Loc), am_Iv t I' J' A' K' → lw_St s ex cI cJ cS dC dI B I' J' A' K' H1 locs1 → W p l e room_1 s m #[Value.ref b] below meth c H1 locs1 cells slots Q (F0 m 1517 ls [])) :
    W p l e room_1 s m #[Value.ref b] below meth c H locs cells slots Q (F0 m pc ls []) := by
  obtain ⟨d1, d2, r, I', J', A', K', hd1, hd2, hr1, hr2, hiv⟩ := hr
  obtain ⟨e1, e2, e3, e4, e5, e6, e7, e8⟩ := hd
  obtain ⟨hx, hb, hr0, hml, hown, hts, hX, hbl, hlocks, hgv⟩ := id C.1
  have h0 := lv_at hl 0 rfl
  have h3 := lv_at hl 3 rfl
  refine lv_aload_n hx hb e1 rfl (lv_at hl 1 rfl) ?_
  refine lw_args C hL hSt.2.2.2 hi h0 h3 k 1 _ _ e2 (by omega) ?_
  refine lw_callX C (as := lw_as xs k (i + 1)) (rest := []) (v := some (.int r)) (by rw [lw_as_ws]; exact hy) (lw_as_len _ _ _) (lw_as_map _ _ _ _ _) rfl hd1 hr1 hSt hl (by decide) hcells e3 (fun H1 locs1 hSt1 => ?_)
  refine lv_aload_n hx hb e4 rfl (lv_at hl 2 rfl) ?_
  refine lw_args C hL hSt1.2.2.2 hi h0 h3 k 1 _ _ e5 (by omega) ?_
  refine lw_callM C (as := lw_as xs k (i + 1)) (rest := [.int r]) (v := some (.int r)) (by rw [lw_as_ws]; exact hz) (lw_as_len _ _ _) (lw_as_map _ _ _ _ _) rfl hd2 hr2 hSt1 hl (by show 1 ≤ 8; decide) hcells e6 (fun H2 locs2 hSt2 => ?_)
  refine lv_icmp_eq (tgt := 1517) hx hb e7 e8 (fun _ => ?_) (fun h => absurd rfl h)
  exact kk I' J' A' K' H2 locs2 hiv hSt2
end LWS
