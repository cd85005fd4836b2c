/-! THE LAW'S START: the two objects are made -/
theorem lw_goodI {y : Nat} (hy : y < am_N) : GoodIn lw_tbl (ar_ws y) := by
  obtain ⟨hpl, hmh, hcw, hini, hkz⟩ := ar_mok hy
  intro w hw
  rcases List.mem_cons.mp hw with rfl | hw
  · exact ⟨ar_w_in hcw, Or.inl rfl⟩
  · exact ⟨(List.mem_filter.mp hw).1, good_of_word (List.mem_filter.mp hw).2⟩
theorem lw_born {b : Nat} {s : State} {ex : Nat → Value} {cI cJ cS : ClassId} {dC : Nat → ClassId} {dI : Nat → Nat → Nat} {B ci : Nat} {H1 : Heap} {kC : Class} (hts : ∀ w ∈ lw_tbl, w.before #[Value.ref b] s = true) (hK : va_K (dC, dI) vwCl (ar_tys cI cJ cS) s) (hci : ci < 7) (hkC : s.vm.classes[dC ci]? = some kC) (e1 : H1[B]? = some (blank (dC ci) kC)) : va_P (dC, dI) vwCl (ar_W B ex cI cJ cS ([(ci, ar_N ci)], fun _ _ => 0, fun _ _ => 0, fun _ _ => .null)) H1 := by
  obtain ⟨hvc, hu, hnm2, ty, hty⟩ := ar_cls ci hci
  have hKn := hK.1 ci _ hvc
  intro k q hq
  obtain ⟨h1, h2⟩ := ar_W_key hq
  have hk0 : k = 0 := by
    have h3 : k < 1 := h2
    omega
  subst hk0
  cases hq
  show va_at _ _ (B + 0, ar_cell B ex cI cJ cS _ _ _ 0 (ci, ar_N ci)) H1
  rw [ar_cellO (by omega), Nat.add_zero]
  refine ⟨_, hvc, (u_born ty hts (fun w hw => (hu w hw).1) hKn hkC e1 hty).to (fun k hk => ?_)⟩
  have h1 := hty k hk
  unfold vp_V
  rw [List.getD_eq_getElem?_getD, ar_fs_get hk]
  rcases ar_ftk ci hci k hk with q2 | q2 | q2
  · rw [if_neg (by omega)]
    have h2 := ar_ft0 q2
    rw [h1] at h2
    rw [Option.some.inj h2]
    rfl
  · rw [if_pos q2]
    obtain ⟨t2, h2, h3⟩ := ar_ft1 q2
    rw [h1] at h2
    rw [Option.some.inj h2]
    rcases h3 with ⟨z, rfl⟩ | ⟨z, rfl⟩ <;> rfl
  · rw [if_neg (by omega)]
    have h2 := ar_ft2 q2
    rw [h1] at h2
    rw [Option.some.inj h2]
    rfl
theorem lw_init {p : Program} {l : Launch} {e : Env} {s : State} {m : MethodId} {below : List Frame} {meth : Method} {c : Code} {b L : Nat} {xs : Nat → Int32} {ex : Nat → Value} {cI cJ cS : ClassId} {dC : Nat → ClassId} {dI : Nat → Nat → Nat} {H : Heap} {locs : List Loc} {cells slots mc ms pc : Nat} {lsl : Array Slot} {lv : List (Nat × Value)} {rest : List Value} {B y d N jx : Nat} {M M' : am_M} {Q : State → Prop}
    (C : lw_Cx p s m meth c b L xs ex cI cJ cS dC dI) (hy : y < am_N) (hk : (am_mt y).2.2.2.2.getD 0 9 = 2) (hna : (am_mt y).2.2.2.2.getD 1 0 = 0) (hws : 1 ≤ (am_mt y).2.2.1) (h9 : M.1.length ≤ 900) (hlink : Cond.methodLink R_law jx (am_mt y).1 ∈ lw_tbl)
    (hrun : am_run true N d y (0, am_loc (am_mt y).2.2.1 [.ref 0], [], M) = some (none, M')) (hd : d ≤ 60) (hB : s.heap.size ≤ B) (hsz : B + M.1.length = H.size) (hmc : mc = M'.1.length - M.1.length) (hms : ms = ar_sum M'.1 - ar_sum M.1) (hP : va_P (dC, dI) vwCl (ar_W B ex cI cJ cS M) H) (hS : va_S (fun q => s.heap.size ≤ q) s.heap H locs) (hl : lv_has lsl 4 lv) (hrest : (rest.map fun v => v.category).sum ≤ 8) (hcells : cells + mc ≤ 600000 ∧ slots + ms ≤ 7302250) (hdg : decode code pc = .ok (.invokespecial jx, 3))
    (kk : ∀ (H1 : Heap) (locs1 : List Loc), va_P (dC, dI) vwCl (ar_W B ex cI cJ cS M') H1 → B + M'.1.length ≤ H1.size → (∀ q : Nat, q < H.size → ¬ va_A (ar_W B ex cI cJ cS M) H.size q → H1[q]? = H[q]?) → va_S (fun q => s.heap.size ≤ q) s.heap H1 locs1 → W p l e room_1 s m #[Value.ref b] below meth c H1 locs1 (cells + mc) (slots + ms) Q (F0 m (pc + 3) lsl rest)) :
    W p l e room_1 s m #[Value.ref b] below meth c H locs cells slots Q (F0 m pc lsl (.ref B :: rest)) := by
  obtain ⟨⟨hx, hb, hr, hml, hown, hts, hX, hbl, hlocks, hgv⟩, hK, hE⟩ := C
  have hex := hE.2.2.2.2.2.1
  obtain ⟨hpl, hmh, hcw, hini, hkz⟩ := ar_mok hy
  rw [hk] at hkz
  simp only [Bool.and_eq_true, decide_eq_true_eq] at hkz
  obtain ⟨hin, hnm1, hrt1⟩ := hkz
  have hMet := ar_met (ar_sound N) (l := l) (B := B) (cI := cI) (cJ := cJ) (cS := cS) (dC := dC) (dI := dI) (sz := H.size) hy hex (by show 0 + 1 ≤ _; exact hws) hrun hmc hms
  have hAA : ∀ q, va_A (ar_W B ex cI cJ cS M) H.size q → s.heap.size ≤ q := fun q hq => by
    have h1 := hS.1
    rcases ar_W_far hq with h | h <;> omega
  have h40 := ar_small y hy
  have hrev : [Value.ref 0].map (ar_v B ex) = [.ref B] := by rw [List.map_cons, ar_vlt (by omega), Nat.add_zero]; rfl
  have hpre : PreS s H (ar_Pc B ex cI cJ cS dC dI true H.size M [.ref 0]) [.ref B] := ⟨ar_blind, fun U hU hW => ⟨by rw [hrev], by rw [hU], by rw [hU]; exact hP, va_K.moved hW.alike hK, by rw [hU]; exact ar_X.to hW hS.2.1 hAA hE, h9, fun _ => hsz⟩⟩
  have hrunI := va_runI (As := []) (rest := rest) (g := F0 m pc lsl (.ref B :: rest)) (H := H) (locs := locs) (cells := cells) (slots := slots) (R := room_1) (below := below) (meth := meth) (e := e) ⟨hx, hb, hml, hown, hts⟩ hMet (cwI _ hts (lw_goodI hy) (by unfold ar_ws; rw [hrt1]) rfl rfl (hts _ (ar_w_in hini)) (hts _ hlink) (hts _ (ar_w_in hin)) hnm1 ⟨hmh.1, hmh.2.1, hmh.2.2⟩ ⟨by show d + 1 + 1 ≤ 2048; omega, by show 8 + (_ + 11) + 64 * (d + 1) ≤ 84000; omega⟩) hpre rfl (by rw [hna]; rfl) hl.1 rfl (by show 2 * 0 + _ ≤ 8; omega) hdg ⟨hcells.1, hcells.2⟩
  intro T hT X
  obtain ⟨v', st₀, t, T', L', h0, X', hL, e1, e2, ⟨hv, hp, ⟨hz, hk'⟩, hal⟩, st⟩ := hrunI T hT X
  have hv' : v' = none := by injection hv
  subst hv'
  rw [h0] at hz hk'
  rw [← e1] at hp hz hk' hal
  obtain ⟨t2, a1, b1⟩ := kk T'.heap (locs ++ L') hp (hal rfl) hk' ⟨Nat.le_trans hS.1 hz, fun q h1 h2 => by rw [hk' q (Nat.lt_of_lt_of_le h1 hS.1) (fun z => h2 (hAA q z))]; exact hS.2.1 q h1 h2, fun q hq => by
      rcases List.mem_append.mp hq with h | h
      · exact hS.2.2 q h
      · exact hAA _ (hL q h)⟩ T' rfl X'
  exact ⟨t2, st t2 a1, b1⟩
