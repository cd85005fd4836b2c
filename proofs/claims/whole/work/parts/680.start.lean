set_option maxHeartbeats 4000000 in
/-- from the entry, for every script of at most 3072 ints, the law comes to its end with true -/
theorem whole_start {p : Program} {e : Env} {s : State} {m : MethodId} {below : List Frame} {meth : Method} {c : Code} (l : Launch) (hflags : l.flags = flags0) {b L : Nat} {xs : Nat → Int32} (hL : L ≤ 3072) (C0 : lw_At p s m meth c b L xs) : W p l e room_1 s m #[Value.ref b] below meth c s.heap [] 0 0 (lw_Z below #[Value.ref b] s) (entryFrame m ([Value.ref b] : List Value).toArray 4) := by
  obtain ⟨hx, hb, hr, hml, hown, hts, hX, hbl, hlocks, hgv⟩ := id C0
  obtain ⟨dC, dI, cI, cJ, cS, hK⟩ := lw_K hts
  obtain ⟨ex, hE⟩ := lw_X hts hgv
  have C : lw_Cx p s m meth c b L xs ex cI cJ cS dC dI := ⟨C0, hK, hE⟩
  have hl := lv_entry ([.ref b]) (n := 4) (Nat.le_of_ble_eq_true rfl)
  rw [lg_entry_eq]
  generalize (lg_sl ([.ref b]) ++ List.replicate (4 - (lg_sl ([.ref b])).length) Slot.unset).toArray = ls at hl ⊢
  have hl : lv_has ls 4 [(0, .ref b)] := hl
  obtain ⟨MX, hrunX, hagX⟩ := am_startX
  obtain ⟨MM, hrunM, hagM⟩ := am_startM
  have hMX : MX.1 = TX := hagX.1
  have hMM : MM.1 = TM := hagM.1
  refine W.newcK (H := s.heap) (C := ar_C 5) (n := 10) (index := 7) hx hb hown (hts _ (by decide +kernel)) (hts _ (by decide +kernel)) (hts _ (by decide +kernel)) rfl (show decode code 0 = .ok (.new 7, 3) by decide +kernel) (by decide) (by decide) (hK.1 5 _ (ar_cls 5 (by decide)).1).2.1 rfl (fun H1 kC hkC e1 z1 o1 => ?_)
  have hP1 := lw_born (ex := ex) (ci := 5) hts hK (by decide) hkC e1
  have hS1 : va_S (fun q => s.heap.size ≤ q) s.heap H1 [] := ⟨by omega, fun q h _ => o1 q h, fun q h => by cases h⟩
  show W p l e room_1 s m #[Value.ref b] below meth c H1 [] 1 10 (lw_Z below #[Value.ref b] s) (F0 m 3 ls [.ref s.heap.size])
  refine lv_dup hx hb (show decode code 3 = .ok (.dup, 1) by decide +kernel) rfl ?_
  refine lw_init C (y := nX7_init) (jx := 9) (M := M0X) (rest := [.ref s.heap.size]) (mc := 56) (ms := ar_sum TX - 10) (by decide) (by decide +kernel) (by decide +kernel) (by decide +kernel) (by decide) (by decide +kernel) hrunX (by decide) (Nat.le_refl _) z1.symm (by rw [hMX]; rfl) (by rw [hMX]; rfl) hP1 hS1 hl (by show 1 ≤ 8; decide) (by decide +kernel) (show decode code 4 = .ok (.invokespecial 9, 3) by decide +kernel) (fun H2 locs2 hP2 hz2 hk2 hS2 => ?_)
  have hP2 := ar_P_ag hagX hP2
  refine lv_astore_n (lv' := [(1, .ref s.heap.size), (0, .ref b)]) hx hb (show decode code 7 = .ok (.astore_n 1, 1) by decide +kernel) rfl hl (by decide) rfl (fun ls hl => ?_)
  refine W.sz (fun hsz => ?_)
  have hz2' : H2.size = s.heap.size + 57 := by
    have h1 : s.heap.size + MX.1.length ≤ H2.size := hz2
    rw [hMX] at h1
    have h2 : s.heap.size + 57 ≤ H2.size := h1
    omega
  refine W.newcK (H := H2) (C := ar_C 6) (n := 39) (index := 10) hx hb hown (hts _ (by decide +kernel)) (hts _ (by decide +kernel)) (hts _ (by decide +kernel)) rfl (show decode code 8 = .ok (.new 10, 3) by decide +kernel) (by decide) (by decide +kernel) (hK.1 6 _ (ar_cls 6 (by decide)).1).2.1 hz2' (fun H3 kC3 hkC3 e3 z3 o3 => ?_)
  have hP3 := lw_born (ex := ex) (ci := 6) hts hK (by decide) hkC3 e3
  have hPx3 := hP2.kept (H1 := H3) (fun k q hq => o3 q.1 (by have h := (hP2 k q hq).lt; omega))
  have hS3 : va_S (fun q => s.heap.size ≤ q) s.heap H3 locs2 := ⟨by omega, fun q h g => (o3 q (by omega)).trans (hS2.2.1 q h g), hS2.2.2⟩
  show W p l e room_1 s m #[Value.ref b] below meth c H3 locs2 58 (10 + (ar_sum TX - 10) + 39) (lw_Z below #[Value.ref b] s) (F0 m 11 ls [.ref (s.heap.size + 57)])
  refine lv_dup hx hb (show decode code 11 = .ok (.dup, 1) by decide +kernel) rfl ?_
  refine lw_init C (y := nX8_init) (jx := 12) (M := M0M) (rest := [.ref (s.heap.size + 57)]) (mc := 25) (ms := ar_sum TM - 39) (by decide) (by decide +kernel) (by decide +kernel) (by decide +kernel) (by decide) (by decide +kernel) hrunM (by decide) (by omega) z3.symm (by rw [hMM]; rfl) (by rw [hMM]; rfl) hP3 hS3 hl (by show 1 ≤ 8; decide) (by decide +kernel) (show decode code 12 = .ok (.invokespecial 12, 3) by decide +kernel) (fun H4 locs4 hP4 hz4 hk4 hS4 => ?_)
  have hP4 := ar_P_ag hagM hP4
  have hPx4 := hPx3.kept (H1 := H4) (fun k q hq => hk4 q.1 (hPx3 k q hq).lt (fun z => by
    have h1 := ar_W_key hq
    have h2 := (hPx3 k q hq).lt
    have h3 : k < 57 := h1.2
    rcases ar_W_far z with ⟨h, h'⟩ | h <;> omega))
  refine W.widen (k := 600000) (n := 7302250) (by decide) (by decide +kernel) ?_
  refine lv_astore_n (lv' := [(2, .ref (s.heap.size + 57)), (1, .ref s.heap.size), (0, .ref b)]) hx hb (show decode code 15 = .ok (.astore_n 2, 1) by decide +kernel) rfl hl (by decide) rfl (fun ls hl => ?_)
  refine lv_iconst (v := nI 0) hx hb (show decode code 16 = .ok (.iconst 0, 1) by decide +kernel) (by decide) ?_
  refine lv_istore_n (lv' := [(3, .int (nI 0)), (2, .ref (s.heap.size + 57)), (1, .ref s.heap.size), (0, .ref b)]) hx hb (show decode code 17 = .ok (.istore_n 3, 1) by decide +kernel) rfl hl (by decide) rfl (fun ls hl => ?_)
  exact lw_loop C hL (L + 1) 0 0 IX0 J00 IM0 J00 H4 locs4 ls (Nat.zero_le _) (by omega) (Nat.le_refl _) am_start ⟨Nat.le_refl _, hPx4, hP4, hS4⟩ (lv_sub hl [3, 2, 1, 0] rfl)
