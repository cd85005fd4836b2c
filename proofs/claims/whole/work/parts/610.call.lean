/-! A CALL FROM THE LAW: of a public method, of x or of m -/
def lw_Cx (p : Program) (s : State) (m : MethodId) (meth : Method) (c : Code) (b L : Nat) (xs : Nat → Int32) (ex : Nat → Value) (cI cJ cS : ClassId) (dC : Nat → ClassId) (dI : Nat → Nat → Nat) : Prop :=
  lw_At p s m meth c b L xs ∧ va_K (dC, dI) vwCl (ar_tys cI cJ cS) s ∧ ar_X ex (fun q => s.heap.size ≤ q) s s.heap
theorem ar_W_key {B : Nat} {ex : Nat → Value} {cI cJ cS : ClassId} {M : am_M} {i : Nat} {q : Nat × va_E} (hp : (ar_W B ex cI cJ cS M)[i]? = some q) : q.1 = B + i ∧ i < M.1.length := by
  simp only [ar_W, List.getElem?_mapIdx] at hp
  cases hu : M.1[i]? with
  | none => rw [hu] at hp; cases hp
  | some u =>
    rw [hu] at hp
    cases hp
    exact ⟨rfl, (List.getElem?_eq_some_iff.mp hu).1⟩
theorem ar_W_far {B : Nat} {ex : Nat → Value} {cI cJ cS : ClassId} {M : am_M} {sz q : Nat} (h : va_A (ar_W B ex cI cJ cS M) sz q) : (B ≤ q ∧ q < B + M.1.length) ∨ sz ≤ q := by
  rcases h with ⟨k, e, h⟩ | h
  · have h1 := ar_W_key h
    dsimp only at h1
    omega
  · exact Or.inr h
theorem lw_good {y jx : Nat} (hy : y < am_N) (hk : (am_mt y).2.2.2.2.getD 0 9 = 1) (hlink : Cond.methodLink R_law jx (am_mt y).1 ∈ lw_tbl) : GoodIn lw_tbl (wsV R_law jx (am_mt y).1.cls (am_mt y).1 (ar_ws y)) := by
  obtain ⟨hpl, hmh, hcw, hini, hkz⟩ := ar_mok hy
  rw [hk] at hkz
  simp only [Bool.and_eq_true] at hkz
  intro w hw
  unfold wsV at hw
  rcases List.mem_append.mp hw with hw | hw
  · simp only [List.mem_cons, List.not_mem_nil, or_false] at hw
    rcases hw with rfl | rfl | rfl | rfl
    · exact ⟨hlink, Or.inl rfl⟩
    · exact ⟨ar_w_in hkz.1, Or.inl rfl⟩
    · exact ⟨ar_w_in hkz.2, Or.inl rfl⟩
    · exact ⟨ar_w_in hini, Or.inl rfl⟩
  · rcases List.mem_cons.mp hw with rfl | hw
    · exact ⟨ar_w_in hcw, Or.inl rfl⟩
    · exact ⟨(List.mem_filter.mp hw).1, good_of_word (List.mem_filter.mp hw).2⟩
theorem lw_call {p : Program} {l : Launch} {e : Env} {s : State} {m : MethodId} {below : List Frame} {meth : Method} {c : Code} {b L : Nat} {xs : Nat → Int32} {ex : Nat → Value} {cI cJ cS : ClassId} {dC : Nat → ClassId} {dI : Nat → Nat → Nat} {H : Heap} {locs : List Loc} {cells slots pc : Nat} {lsl : Array Slot} {lv : List (Nat × Value)} {rest as : List Value} {B y d N jx ci n : Nat} {M M' : am_M} {v : Option Value} {Q : State → Prop}
    (C : lw_Cx p s m meth c b L xs ex cI cJ cS dC dI) (hy : y < am_N) (hk : (am_mt y).2.2.2.2.getD 0 9 = 1) (hci : ci < 7) (hcls : (am_mt y).1.cls = ar_C ci) (htag : M.1[0]? = some (ci, n)) (hna : (am_mt y).2.2.2.2.getD 1 0 = as.length) (hws : am_ws (.ref 0 :: as) ≤ (am_mt y).2.2.1) (h9 : M.1.length ≤ 900) (hlink : Cond.methodLink R_law jx (am_mt y).1 ∈ lw_tbl)
    (hrun : am_run false N d y (0, am_loc (am_mt y).2.2.1 (.ref 0 :: as), [], M) = some (v, M')) (hd : d ≤ 60) (hB : s.heap.size ≤ B) (hP : va_P (dC, dI) vwCl (ar_W B ex cI cJ cS M) H) (hS : va_S (fun q => s.heap.size ≤ q) s.heap H locs) (hl : lv_has lsl 4 lv) (hrest : (rest.map fun v => v.category).sum ≤ 8) (hcells : cells ≤ 600000 ∧ slots ≤ 7302250) (hdg : decode code pc = .ok (.invokevirtual jx, 3))
    (kk : ∀ (H1 : Heap) (locs1 : List Loc), va_P (dC, dI) vwCl (ar_W B ex cI cJ cS M') H1 → H.size ≤ H1.size → (∀ q : Nat, q < H.size → ¬ va_A (ar_W B ex cI cJ cS M) H.size q → H1[q]? = H[q]?) → va_S (fun q => s.heap.size ≤ q) s.heap H1 locs1 → W p l e room_1 s m #[Value.ref b] below meth c H1 locs1 cells slots Q (F0 m (pc + 3) lsl ((v.map (ar_v B ex)).toList ++ rest))) :
    W p l e room_1 s m #[Value.ref b] below meth c H locs cells slots Q (F0 m pc lsl ((as.map (ar_v B ex)).reverse ++ .ref B :: rest)) := by
  obtain ⟨⟨hx, hb, hr, hml, hown, hts, hX, hbl, hlocks, hgv⟩, hK, hE⟩ := C
  have hex := hE.2.2.2.2.2.1
  obtain ⟨hpl, hmh, hcw, hini, hkz⟩ := ar_mok hy
  have htg := (am_run_tags N d y _ v M' hrun).2.2.1 rfl
  dsimp only at htg
  have hMet := ar_met (ar_sound N) (l := l) (B := B) (cI := cI) (cJ := cJ) (cS := cS) (dC := dC) (dI := dI) (sz := H.size) (mc := 0) (ms := 0) hy hex hws hrun (by rw [htg, Nat.sub_self]) (by rw [htg, Nat.sub_self])
  have hAA : ∀ q, va_A (ar_W B ex cI cJ cS M) H.size q → s.heap.size ≤ q := fun q hq => by
    have h1 := hS.1
    rcases ar_W_far hq with h | h <;> omega
  have hcell := ar_W_at (B := B) (ex := ex) (cI := cI) (cJ := cJ) (cS := cS) (I := M.2.1) (J := M.2.2.1) (R := M.2.2.2) htag
  rw [ar_cellO (by omega), Nat.add_zero] at hcell
  have h40 := ar_small y hy
  have hrev : (Value.ref 0 :: as).map (ar_v B ex) = .ref B :: as.map (ar_v B ex) := by rw [List.map_cons, ar_vlt (by omega), Nat.add_zero]
  have hpre : PreV s H (am_mt y).1.cls B (ar_Pc B ex cI cJ cS dC dI false H.size M (.ref 0 :: as)) (as.map (ar_v B ex)) := ⟨ar_blind, by rw [hcls]; exact va_recv hK hP (ar_cls _ hci).1 hcell, fun U hU hW => ⟨by rw [hrev], by rw [hU], by rw [hU]; exact hP, va_K.moved hW.alike hK, by rw [hU]; exact ar_X.to hW hS.2.1 hAA hE, h9, fun q => by cases q⟩⟩
  have hrunV := va_runV (As := as.map (ar_v B ex)) (rest := rest) (g := F0 m pc lsl ((as.map (ar_v B ex)).reverse ++ .ref B :: rest)) (H := H) (locs := locs) (cells := cells) (slots := slots) (R := room_1) (below := below) (meth := meth) (e := e) ⟨hx, hb, hml, hown, hts⟩ hMet (cwV _ hts (lw_good hy hk hlink) rfl rfl rfl ⟨rfl, hmh.1, hmh.2.1, hmh.2.2⟩ ⟨by show d + 1 + 1 ≤ 2048; omega, by show 8 + (_ + 11) + 64 * (d + 1) ≤ 84000; omega⟩) hpre rfl (by rw [List.length_map, hna]) hl.1 rfl (by show 2 * 0 + _ ≤ 8; omega) hdg ⟨hcells.1, hcells.2⟩
  intro T hT X
  obtain ⟨v', st₀, t, T', L', h0, X', hL, e1, e2, ⟨hv, hp, ⟨hz, hk'⟩, hal⟩, st⟩ := hrunV T hT X
  have hv' : v' = v.map (ar_v B ex) := by injection hv
  subst hv'
  rw [h0] at hz hk'
  rw [← e1] at hp hz hk'
  obtain ⟨t2, a1, b1⟩ := kk T'.heap (locs ++ L') hp hz hk' ⟨Nat.le_trans hS.1 hz, fun q h1 h2 => by rw [hk' q (Nat.lt_of_lt_of_le h1 hS.1) (fun z => h2 (hAA q z))]; exact hS.2.1 q h1 h2, fun q hq => by
      rcases List.mem_append.mp hq with h | h
      · exact hS.2.2 q h
      · exact hAA _ (hL q h)⟩ T' rfl X'
  exact ⟨t2, st t2 a1, b1⟩
