/-! THE LAW'S LOOP: the switch, the two calls with longs, one round after the other -/
abbrev lw_dl (pc : Nat) : Prop := lw_at5 pc 3 ∧ decode code (pc + 5) = .ok (.i2l, 1) ∧ decode code (pc + 6) = .ok (.bipush 32, 2) ∧ decode code (pc + 8) = .ok (.lshl, 1) ∧ lw_at5 (pc + 9) 4
abbrev lw_dm (pc : Nat) : Prop := decode code (pc + 14) = .ok (.i2l, 1) ∧ decode code (pc + 15) = .ok (.ldc2_w 18, 3) ∧ decode code (pc + 18) = .ok (.land, 1) ∧ decode code (pc + 19) = .ok (.lor, 1)
def lw_lg (xs : Nat → Int32) (i : Nat) : Int64 := ((xs (i + 3)).toInt64 <<< ((32 : Int32).toInt64 &&& 63)) ||| ((xs (i + 4)).toInt64 &&& 4294967295)
def lw_offs : Array Int := #[191, 234, 307, 370, 404, 437, 460, 493, 536, 569, 602, 635, 668, 691, 704, 727, 760, 783, 796, 819, 842, 875, 908, 931, 964, 997, 1050, 1083, 1096, 1119, 1142, 1155, 1178, 1231, 1264, 1277, 1290, 1323, 1346, 1369, 1412, 1435, 1448, 1461]
theorem lw_d33 : decode code 33 = .ok (.tableswitch 1484 0 43 lw_offs, 191) := by decide +kernel
theorem lw_offs_ok : ∀ n : Nat, n < 44 → lw_offs[n]? = some (lw_offs.getD n 0) ∧ ((33 : Nat) : Int) + lw_offs.getD n 0 = ((lw_tgs.getD n 0 : Nat) : Int) := by decide +kernel
section LWL
variable {p : Program} {l : Launch} {e : Env} {s : State} {m : MethodId} {below : List Frame} {meth : Method} {c : Code} {b L : Nat} {xs : Nat → Int32} {ex : Nat → Value} {cI cJ cS : ClassId} {dC : Nat → ClassId} {dI : Nat → Nat → Nat} {H : Heap} {locs : List Loc} {cells slots pc : Nat} {ls : Array Slot} {B : Nat} {Q : State → Prop}
theorem lw_switch (C : lw_Cx p s m meth c b L xs ex cI cJ cS dC dI) {v : Int32} (k0 : W p l e room_1 s m #[Value.ref b] below meth c H locs cells slots Q (F0 m 1517 ls [])) (k1 : ∀ n, n < 44 → W p l e room_1 s m #[Value.ref b] below meth c H locs cells slots Q (F0 m (lw_tgs.getD n 0) ls [])) : W p l e room_1 s m #[Value.ref b] below meth c H locs cells slots Q (F0 m 33 ls [.int v]) := by
  obtain ⟨hx, hb, -⟩ := C.1
  by_cases h : v.toInt < 0 ∨ 43 < v.toInt
  · exact lv_tableOut (tgt := 1517) hx hb lw_d33 h (by decide) k0
  · have hn : (v.toInt - 0).toNat < 44 := by omega
    obtain ⟨h1, h2⟩ := lw_offs_ok _ hn
    exact lv_tableIn hx hb lw_d33 (fun q => h (Or.inl q)) (fun q => h (Or.inr q)) h1 h2 (k1 _ hn)
theorem lw_long (C : lw_Cx p s m meth c b L xs ex cI cJ cS dC dI) (hL : L ≤ 3072) (hS : va_S (fun q => s.heap.size ≤ q) s.heap H locs) {i : Nat} (hi : i + 6 ≤ L) (h0 : ls[0]? = some (.val (.ref b))) (h3 : ls[3]? = some (.val (.int (nI i)))) {rest : List Value} (hd : lw_dl pc) (hm : lw_dm pc) (kk : W p l e room_1 s m #[Value.ref b] below meth c H locs cells slots Q (F0 m (pc + 20) ls (.long (lw_lg xs i) :: rest))) : W p l e room_1 s m #[Value.ref b] below meth c H locs cells slots Q (F0 m pc ls rest) := by
  obtain ⟨d1, d2, d3, d4, d5⟩ := hd
  obtain ⟨d6, d7, d8, d9⟩ := hm
  obtain ⟨hx, hb, hr, hml, hown, hts, hX, hbl, hlocks, hgv⟩ := id C.1
  refine lw_args C hL hS hi h0 h3 1 3 pc rest (fun q hq => ?_) (by omega) ?_
  · obtain rfl : q = 0 := by omega
    exact d1
  refine lv_i2l hx hb d2 rfl ?_
  refine lv_bipush (v := 32) hx hb d3 (by decide) ?_
  refine lv_lshl hx hb d4 rfl ?_
  refine lw_args C hL hS hi h0 h3 1 4 (pc + 9) _ (fun q hq => ?_) (by omega) ?_
  · obtain rfl : q = 0 := by omega
    exact d5
  refine lv_i2l hx hb d6 rfl ?_
  refine lv_ldc2 hx hb hown (hts (.constantLong R_law 18 4294967295) (by decide +kernel)) d7 ?_
  refine lv_land hx hb d8 ?_
  refine lv_lor hx hb d9 ?_
  exact kk
theorem lw_set (C : lw_Cx p s m meth c b L xs ex cI cJ cS dC dI) (hL : L ≤ 3072) {i : Nat} (hi : i + 6 ≤ L) {t : Nat} {I : am_mI} {J : am_mJ} {A : am_mI} {K : am_mJ} (hv : am_Iv t I J A K) (hSt : lw_St s ex cI cJ cS dC dI B I J A K H locs) (hl : lv_has ls 4 [(0, .ref b), (1, .ref B), (2, .ref (B + 57)), (3, .int (nI i))]) (hcells : cells ≤ 600000 ∧ slots ≤ 7302250)
    (kk : ∀ (I' : am_mI) (J' : am_mJ) (A' : am_mI) (K' : am_mJ) (H1 : Heap) (locs1 : List Loc), am_Iv (t + 20000) I' J' A' K' → lw_St s ex cI cJ cS dC dI B I' J' A' K' H1 locs1 → W p l e room_1 s m #[Value.ref b] below meth c H1 locs1 cells slots Q (F0 m 1517 ls [])) :
    W p l e room_1 s m #[Value.ref b] below meth c H locs cells slots Q (F0 m 267 ls []) := by
  obtain ⟨hx, hb, hr0, hml, hown, hts, hX, hbl, hlocks, hgv⟩ := id C.1
  have h0 := lv_at hl 0 rfl
  have h3 := lv_at hl 3 rfl
  obtain ⟨r, I', J', A', K', g1, g2, hv'⟩ := op_set hv (xs (i + 1)) (xs (i + 2)) (lw_lg xs i)
  refine lv_aload_n hx hb (show decode code 267 = .ok (.aload_n 1, 1) by decide +kernel) rfl (lv_at hl 1 rfl) ?_
  refine lw_args C hL hSt.2.2.2 hi h0 h3 2 1 268 _ (by decide +kernel) (by omega) ?_
  refine lw_long (pc := 278) C hL hSt.2.2.2 hi h0 h3 (by decide +kernel) (by decide +kernel) ?_
  refine lw_callX (pc := 298) C (as := [.int (xs (i + 1)), .int (xs (i + 2)), .long (lw_lg xs i)]) (rest := []) (v := some (.int r)) lw_x_set rfl rfl rfl (show 2 ≤ 60 by decide) (axX7_set g1) hSt hl (by decide) hcells (by decide +kernel) (fun H1 locs1 hSt1 => ?_)
  refine lv_aload_n hx hb (show decode code 301 = .ok (.aload_n 2, 1) by decide +kernel) rfl (lv_at hl 2 rfl) ?_
  refine lw_args C hL hSt1.2.2.2 hi h0 h3 2 1 302 _ (by decide +kernel) (by omega) ?_
  refine lw_long (pc := 312) C hL hSt1.2.2.2 hi h0 h3 (by decide +kernel) (by decide +kernel) ?_
  refine lw_callM (pc := 332) C (as := [.int (xs (i + 1)), .int (xs (i + 2)), .long (lw_lg xs i)]) (rest := [.int r]) (v := some (.int r)) lw_m_set rfl rfl rfl (show 1 ≤ 60 by decide) (axX8_set g2) hSt1 hl (by show 1 ≤ 8; decide) hcells (by decide +kernel) (fun H2 locs2 hSt2 => ?_)
  refine lv_icmp_eq (tgt := 1517) hx hb (show decode code 335 = .ok (.if_icmp .eq 1182, 3) by decide +kernel) (by decide) (fun _ => ?_) (fun h => absurd rfl h)
  exact kk I' J' A' K' H2 locs2 hv' hSt2
theorem lw_cmp0 (r : Int64) : lg_cmp r r = 0 := by
  unfold lg_cmp
  rw [if_neg (show ¬ r > r from Int64.lt_irrefl), if_pos rfl]
theorem lw_element (C : lw_Cx p s m meth c b L xs ex cI cJ cS dC dI) (hL : L ≤ 3072) {i : Nat} (hi : i + 6 ≤ L) {t : Nat} {I : am_mI} {J : am_mJ} {A : am_mI} {K : am_mJ} (hv : am_Iv t I J A K) (hSt : lw_St s ex cI cJ cS dC dI B I J A K H locs) (hl : lv_has ls 4 [(0, .ref b), (1, .ref B), (2, .ref (B + 57)), (3, .int (nI i))]) (hcells : cells ≤ 600000 ∧ slots ≤ 7302250)
    (kk : ∀ (I' : am_mI) (J' : am_mJ) (A' : am_mI) (K' : am_mJ) (H1 : Heap) (locs1 : List Loc), am_Iv (t + 20000) I' J' A' K' → lw_St s ex cI cJ cS dC dI B I' J' A' K' H1 locs1 → W p l e room_1 s m #[Value.ref b] below meth c H1 locs1 cells slots Q (F0 m 1517 ls [])) :
    W p l e room_1 s m #[Value.ref b] below meth c H locs cells slots Q (F0 m 403 ls []) := by
  obtain ⟨hx, hb, hr0, hml, hown, hts, hX, hbl, hlocks, hgv⟩ := id C.1
  have h0 := lv_at hl 0 rfl
  have h3 := lv_at hl 3 rfl
  obtain ⟨r, g1, g2⟩ := op_element hv (xs (i + 1)) (xs (i + 2))
  refine lv_aload_n hx hb (show decode code 403 = .ok (.aload_n 1, 1) by decide +kernel) rfl (lv_at hl 1 rfl) ?_
  refine lw_args C hL hSt.2.2.2 hi h0 h3 2 1 404 _ (by decide +kernel) (by omega) ?_
  refine lw_callX (pc := 414) C (as := [.int (xs (i + 1)), .int (xs (i + 2))]) (rest := []) (v := some (.long r)) lw_x_element rfl rfl rfl (show 2 ≤ 60 by decide) (axX7_element g1) hSt hl (by decide) hcells (by decide +kernel) (fun H1 locs1 hSt1 => ?_)
  refine lv_aload_n hx hb (show decode code 417 = .ok (.aload_n 2, 1) by decide +kernel) rfl (lv_at hl 2 rfl) ?_
  refine lw_args C hL hSt1.2.2.2 hi h0 h3 2 1 418 _ (by decide +kernel) (by omega) ?_
  refine lw_callM (pc := 428) C (as := [.int (xs (i + 1)), .int (xs (i + 2))]) (rest := [.long r]) (v := some (.long r)) lw_m_element rfl rfl rfl (show 1 ≤ 60 by decide) (axX8_element g2) hSt1 hl (by show 2 ≤ 8; decide) hcells (by decide +kernel) (fun H2 locs2 hSt2 => ?_)
  refine W.lcmp hx hb (show decode code 431 = .ok (.lcmp, 1) by decide +kernel) ?_
  refine lv_if_eq (tgt := 1517) hx hb (show decode code 432 = .ok (.ifCond .eq 1085, 3) by decide +kernel) (by decide) (fun _ => ?_) (fun h => absurd (lw_cmp0 r) h)
  exact kk I J A K H2 locs2 (hv.more (by omega)) hSt2
end LWL
