/-! THE MAIN ROW, proved: by induction on the run's length -/
theorem ar_call {p : Program} {l : Launch} {e : Env} {Rm : Room} {s : State} {m : MethodId} {args : Array Value} {below : List Frame} {meth : Method} {c : Code} {H : Heap} {locs : List Loc} {cells slots mc ms : Nat} {Q : State → Prop} {pc : Nat} {lsl : Array Slot} {st0 rest : List Value} {B : Nat} {ex : Nat → Value} {cI cJ cS : ClassId} {dC : Nat → ClassId} {dI : Nat → Nat → Nat} {A A1 : Nat → Prop} {al : Bool} {v : Option Value} {M' : am_M} {a : Array Value} {free : Addr → Prop}
    (hr : va_Run p l e Rm s m args below meth c H locs cells slots mc ms (F0 m pc lsl st0) rest (ar_Q B ex cI cJ cS dC dI A1 al v M' a) free) (hS : va_S A s.heap H locs) (hA : ∀ q, A1 q → A q) (hf : ∀ q, free q → A q)
    (kk : ∀ (H1 : Heap) (locs1 : List Loc), va_P (dC, dI) vwCl (ar_W B ex cI cJ cS M') H1 → va_S A s.heap H1 locs1 → (al = true → B + M'.1.length ≤ H1.size) → W p l e Rm s m args below meth c H1 locs1 (cells + mc) (slots + ms) Q (F0 m (pc + 3) lsl ((v.map (ar_v B ex)).toList ++ rest))) : W p l e Rm s m args below meth c H locs cells slots Q (F0 m pc lsl st0) := by
  intro T hT X
  obtain ⟨v', st₀, t, T', L, h0, X', hL, e1, e2, ⟨hv, hb, ⟨hz, hk⟩, hal⟩, st⟩ := hr T hT X
  have hv' : v' = v.map (ar_v B ex) := by injection hv
  subst hv'
  rw [h0] at hz hk
  rw [← e1] at hb hz hk hal
  obtain ⟨t2, a1, b1⟩ := kk T'.heap (locs ++ L) hb ⟨Nat.le_trans hS.1 hz, fun q h1 h2 => by rw [hk q (Nat.lt_of_lt_of_le h1 hS.1) (fun z => h2 (hA q z))]; exact hS.2.1 q h1 h2, fun q hq => by
      rcases List.mem_append.mp hq with h | h
      · exact hS.2.2 q h
      · exact hf _ (hL q h)⟩ hal T' rfl X'
  exact ⟨t2, st t2 a1, b1⟩
theorem ar_split {a b c x m : Nat} (h1 : a ≤ b) (h2 : b ≤ c) (h : m = x + (c - a)) : m = x + (b - a) + (c - b) := by omega
theorem ar_mok {z : Nat} (hz : z < am_N) : plainName (am_mt z).1.cls = true ∧ ((am_mt z).1.cls ≠ "java/lang/invoke/MethodHandle" ∧ (am_mt z).1.cls ≠ "java/lang/invoke/VarHandle" ∧ (parseMethodDescriptor (am_mt z).1.desc).map (fun d => d.parameters.length) = some ((am_mt z).2.2.2.2.getD 1 0)) ∧ ar_w ((am_mt z).2.2.2.2.getD 3 0) (.code (am_mt z).1 (am_mt z).2.1 (am_mt z).2.2.1 (am_mt z).2.2.2.1) = true ∧ ar_w ((am_mt z).2.2.2.2.getD 2 0) (.initialized (am_mt z).1.cls) = true ∧ (match (am_mt z).2.2.2.2.getD 0 9 with
    | 0 => ar_w ((am_mt z).2.2.2.2.getD 4 0) (.static (am_mt z).1)
    | 1 => ar_w ((am_mt z).2.2.2.2.getD 4 0) (.instanceMethod (am_mt z).1) && ar_w ((am_mt z).2.2.2.2.getD 5 0) (.selects (am_mt z).1.cls (am_mt z).1 (am_mt z).1)
    | 2 => ar_w ((am_mt z).2.2.2.2.getD 4 0) (.instanceMethod (am_mt z).1) && decide ((am_mt z).1.name = "<init>" ∧ (am_mt z).2.2.2.1 = none)
    | _ => false) = true := by
  have hm := ar_every z hz
  unfold ar_all ar_meth at hm
  rw [Bool.and_eq_true] at hm
  have hm := hm.1
  simp only [Bool.and_eq_true] at hm
  obtain ⟨⟨⟨⟨hpl, hmh⟩, hcw⟩, hini⟩, hkd⟩ := hm
  exact ⟨hpl, of_decide_eq_true hmh, hcw, hini, hkd⟩
theorem ar_goodV {y z x q1 q2 q3 q4 q5 : Nat} (h1 : ar_w q1 (.methodLink (am_mt y).1.cls x (am_mt z).1) = true) (h2 : ar_w q2 (.instanceMethod (am_mt z).1) = true) (h3 : ar_w q3 (.selects (am_mt z).1.cls (am_mt z).1 (am_mt z).1) = true) (h4 : ar_w q4 (.initialized (am_mt z).1.cls) = true) (h5 : ar_w q5 (.code (am_mt z).1 (am_mt z).2.1 (am_mt z).2.2.1 (am_mt z).2.2.2.1) = true) : GoodIn (ar_ws y) (wsV (am_mt y).1.cls x (am_mt z).1.cls (am_mt z).1 (ar_ws z)) := by
  intro w hw
  unfold wsV at hw
  rcases List.mem_append.mp hw with hw | hw
  · simp only [List.mem_cons, List.not_mem_nil, or_false] at hw
    rcases hw with rfl | rfl | rfl | rfl
    · exact ⟨ar_in h1 rfl, Or.inl rfl⟩
    · exact ⟨ar_in h2 rfl, Or.inl rfl⟩
    · exact ⟨ar_in h3 rfl, Or.inl rfl⟩
    · exact ⟨ar_in h4 rfl, Or.inl rfl⟩
  · exact ar_sub (ar_w_in h5) w hw
theorem ar_goodS {y z x q1 q2 q4 q5 : Nat} (h1 : ar_w q1 (.methodLink (am_mt y).1.cls x (am_mt z).1) = true) (h2 : ar_w q2 (.static (am_mt z).1) = true) (h4 : ar_w q4 (.initialized (am_mt z).1.cls) = true) (h5 : ar_w q5 (.code (am_mt z).1 (am_mt z).2.1 (am_mt z).2.2.1 (am_mt z).2.2.2.1) = true) : GoodIn (ar_ws y) (va_wsS (am_mt y).1.cls x (am_mt z).1 (ar_ws z)) := by
  intro w hw
  unfold va_wsS at hw
  rcases List.mem_append.mp hw with hw | hw
  · simp only [List.mem_cons, List.not_mem_nil, or_false] at hw
    rcases hw with rfl | rfl | rfl
    · exact ⟨ar_in h1 rfl, Or.inl rfl⟩
    · exact ⟨ar_in h2 rfl, Or.inl rfl⟩
    · exact ⟨ar_in h4 rfl, Or.inl rfl⟩
  · exact ar_sub (ar_w_in h5) w hw
theorem ar_char {w : Int32} (h : (w.toUInt32 % 65536).toInt32 = w) : narrow .char (.int w) = .int w := by
  show Value.int w.toUInt32.toUInt16.toUInt32.toInt32 = _
  have e : w.toUInt32.toUInt16.toUInt32 = w.toUInt32 % 65536 := by
    apply UInt32.toNat_inj.mp
    simp
  rw [e, h]
set_option maxHeartbeats 4000000 in
theorem ar_sound : ∀ n, ar_Sound n := by
  intro n
  induction n with
  | zero => intro p l e Rm s m args below meth c al B ex cI cJ cS dC dI A y d H locs lsl cells slots mc ms pc ls st M M' v _ _ _ h; cases h
  | succ n ih =>
    intro p l e Rm s m args below meth c al B ex cI cJ cS dC dI A y d H locs lsl cells slots mc ms pc ls st M M' v C hA0 hy hrun hr hfr hlo hmc hms hc hsl
    rw [am_run] at hrun
    cases hs : am_step al y (pc, ls, st, M) with
    | none => rw [hs] at hrun; cases hrun
    | some o =>
      rw [hs] at hrun
      rcases o with ⟨pc', ls', st', M1⟩ | r
      · -- a plain step
        have htg := am_run_tags n d y _ v M' hrun
        dsimp only at htg
        have hle : M.1.length ≤ M1.1.length ∧ ar_sum M.1 ≤ ar_sum M1.1 := by
          rcases am_step_tags hs with q | ⟨q, -, x, q2⟩
          · dsimp only at q; rw [q]; exact ⟨Nat.le_refl _, Nat.le_refl _⟩
          · dsimp only at q2; rw [q2]; simp [ar_sum]
        exact ar_step C hA0 hy hs hr (by omega) ⟨by omega, by omega⟩ (fun H1 locs1 lsl1 hr1 => ih C hA0 hy hrun hr1 hfr hlo (by omega) (by omega) hc hsl)
      · obtain ⟨i, nx, fl, D, L, hf, hcl | hret⟩ := am_step_inr hs
        · -- a call
          obtain ⟨hi, z, kd, na, mx, ci, t, xs, rest, rfl, hk6, hk3, hk8, hk9, rfl, hxs, hrest, hws, rfl, hkd⟩ := hcl
          cases d with
          | zero => cases hrun
          | succ d =>
          dsimp only at hrun
          cases hr1 : am_run al n d z (0, am_loc mx xs.reverse, [], M) with
          | none => rw [hr1] at hrun; cases hrun
          | some q =>
          obtain ⟨v1, M1⟩ := q
          rw [hr1] at hrun
          obtain ⟨nn, hdg, hnx, hck⟩ := ar_dec hy hf
          have htg1 := am_run_tags n d z _ v1 M1 hr1
          have htg2 := am_run_tags n (d + 1) y _ v M' hrun
          dsimp only at htg1 htg2
          obtain ⟨hx, hb, hml, hrt, hts, hown, hlocks, hnm, hK, hE⟩ := id C
          obtain ⟨hP, hS, hA, h9, hz, hn, hl⟩ := id hr
          have hex := hE.2.2.2.2.2.1
          have hD : va_D A (ar_W B ex cI cJ cS M) := ar_W_D hA
          have hAA : ∀ q, va_A (ar_W B ex cI cJ cS M) H.size q → A q := by
            intro q hq
            rcases hq with ⟨k, e9, hk⟩ | hq
            · exact hD.2 k _ hk
            · exact hA0 q (Nat.le_trans hS.1 hq)
          refine W.sz (fun hsz => ?_)
          have hsize : al = true → B + M.1.length = H.size := fun q => by have h1 := hz q; omega
          -- the callee's facts
          have hrestV : 2 * (F0 m pc lsl ((xs ++ rest).map (ar_v B ex))).monitorRoom + ((rest.map (ar_v B ex)).map fun v => v.category).sum ≤ 8 := by
            rw [am_ws_eq hex rest]; show 2 * 0 + _ ≤ 8; omega
          have hstk : (xs ++ rest).map (ar_v B ex) = ((xs.reverse.map (ar_v B ex)).reverse) ++ rest.map (ar_v B ex) := by
            rw [List.map_append, List.map_reverse, List.reverse_reverse]
          have fin : ∀ (cont : List Value → Prop), True := fun _ => trivial
          have go : ∀ (hz2 : z < am_N) (hmx : mx = (am_mt z).2.2.1) (hnx3 : nx = pc + 3), (∀ (rm : Room) (mc1 ms1 : Nat) (Pc : Array Value → State → Prop) (Qc : Array Value → State → Outcome → State → Prop) (fr : Addr → Prop), Met l (am_mt z).1 (ar_ws z) rm Pc Qc mc1 ms1 fr → rm = ar_rm d mc1 ms1 → PreS s H Pc (xs.reverse.map (ar_v B ex)) → cells + mc1 ≤ Rm.cells ∧ slots + ms1 ≤ Rm.slots → va_Run p l e Rm s m args below meth c H locs cells slots mc1 ms1 (F0 m pc lsl ((xs ++ rest).map (ar_v B ex))) (rest.map (ar_v B ex)) (Qc (xs.reverse.map (ar_v B ex)).toArray) fr) →
              W p l e Rm s m args below meth c H locs cells slots (MQ below (ar_Q B ex cI cJ cS dC dI A al v M') args s mc ms A) (F0 m pc lsl ((xs ++ rest).map (ar_v B ex))) := by
            intro hz2 hmx hnx3 hrn
            subst hmx
            have hMet := ar_met ih (l := l) (B := B) (cI := cI) (cJ := cJ) (cS := cS) (dC := dC) (dI := dI) (sz := H.size) hz2 hex hws hr1 rfl rfl
            refine ar_call (A := A) (hrn _ _ _ _ _ _ hMet rfl ⟨ar_blind, fun U hU hW => ⟨rfl, by rw [hU], by rw [hU]; exact hP, va_K.moved hW.alike hK, by rw [hU]; exact ar_X.to hW hS.2.1 hAA hE, h9, hsize⟩⟩ ⟨by omega, by omega⟩) hS hAA hAA (fun H1 locs1 hP1 hS1 hal1 => ?_)
            have e5 : (v1.map (ar_v B ex)).toList ++ rest.map (ar_v B ex) = (v1.toList ++ rest).map (ar_v B ex) := by cases v1 <;> rfl
            rw [e5]
            rw [← hnx3]
            refine ih C hA0 hy hrun ⟨hP1, hS1, fun k hk => ?_, ?_, fun q => ⟨hal1 q, ?_⟩, hn, hl⟩ hfr hlo ?_ ?_ hc hsl
            · rcases Nat.lt_or_ge k M.1.length with q | q
              · exact hA k q
              · cases al with
                | false => have h8 := htg1.2.2.1 rfl; rw [h8] at hk; omega
                | true => exact hA0 _ (by have h1 := hz rfl; have h2 := hS.1; omega)
            · cases al with
              | false => rw [htg1.2.2.1 rfl]; exact h9
              | true => exact htg1.2.2.2 h9
            · have h1 := hz q; omega
            · exact ar_split htg1.1 htg2.1 hmc
            · exact ar_split htg1.2.1 htg2.2.1 hms
          clear fin
          have hR : ∀ (z' : Nat) (mc1 ms1 : Nat), z' < am_N → (ar_rm d mc1 ms1).frames + 1 ≤ Rm.frames ∧ 8 + ((am_mt z').2.2.1 + 11) + (ar_rm d mc1 ms1).locals ≤ Rm.locals := fun z' mc1 ms1 hz' => by
            have h40 := ar_small z' hz'
            show d + 1 + 1 ≤ _ ∧ 8 + (_ + 11) + 64 * (d + 1) ≤ _
            exact ⟨hfr, by omega⟩
          obtain ⟨x, rfl | rfl | rfl⟩ := hi
          · -- invokevirtual
            simp only [ar_chk] at hck
            split at hck
            · rename_i hDe
              injection hDe with e1 hDe
              injection hDe with e2 hDe
              injection hDe with e3 hDe
              injection hDe with e4 hDe
              injection hDe with e5 hDe
              subst e1 e2 e3 e4 e5
              simp only [Bool.and_eq_true, decide_eq_true_eq] at hck
              obtain ⟨⟨hnx3, hz2, hkk, hk1, hna, hmx, hne⟩, hw⟩ := hck
              obtain ⟨hpl, hmh, hcw, hini, hkz⟩ := ar_mok hz2
              rw [hk1] at hkz
              simp only [Bool.and_eq_true] at hkz
              have hG : GoodIn (ar_ws y) (wsV (am_mt y).1.cls x (am_mt _).1.cls (am_mt _).1 (ar_ws _)) := ar_goodV hw hkz.1 hkz.2 hini hcw
              obtain rfl : nn = 3 := by omega
              refine go hz2 hmx hnx3 (fun rm mc1 ms1 Pc Qc fr hM hrm hp hf2 => ?_)
              subst hrm
              rcases hkk with ⟨rfl, hci, hcls⟩ | ⟨rfl, hcls⟩
              · rcases hkd with q | ⟨-, a, as', hxa, hna'⟩ | ⟨q, -⟩
                · cases q
                · obtain ⟨tg, I, J, R⟩ := M
                  obtain ⟨n', hn'⟩ : ∃ n', am_nth tg a = (ci, n') := ⟨(am_nth tg a).2, Prod.ext hna' rfl⟩
                  have hat := am_nth_some hn' (by omega)
                  have hal := (List.getElem?_eq_some_iff.mp hat).1
                  have hcell := ar_W_at (B := B) (ex := ex) (cI := cI) (cJ := cJ) (cS := cS) (I := I) (J := J) (R := R) hat
                  rw [ar_cellO (by omega)] at hcell
                  have hrev : xs.reverse.map (ar_v B ex) = .ref (B + a) :: as'.map (ar_v B ex) := by rw [hxa, List.map_cons, ar_vlt (show a < 1000 by have : tg.length ≤ 900 := h9; omega)]
                  rw [hrev] at hp ⊢
                  have hlen : as'.length + 1 = xs.length := by rw [← List.length_reverse (as := xs), hxa]; rfl
                  exact va_runV (As := as'.map (ar_v B ex)) ⟨hx, hb, hml, hown, hts⟩ hM (cwV _ hts hG rfl rfl rfl ⟨rfl, hmh.1, hmh.2.1, hmh.2.2⟩ (hR _ _ _ hz2)) ⟨hp.1, by rw [hcls]; exact va_recv hK hP (ar_cls _ hci).1 hcell, hp.2⟩ rfl (by rw [List.length_map]; omega) hl.1 (by rw [hstk, hrev]; simp) hrestV hdg hf2
                · cases q
              · rcases hkd with q | ⟨q | q, -⟩ | ⟨-, a, as', hxa, ha1, ha2⟩
                · cases q
                · cases q
                · cases q
                · obtain ⟨⟨adK, adV, hstr, had⟩, -⟩ := hE
                  obtain ⟨j, rfl⟩ : ∃ j, a = 1000 + j := ⟨a - 1000, by omega⟩
                  have hj : j < 7 := by omega
                  have hrev : xs.reverse.map (ar_v B ex) = .ref (adK j) :: as'.map (ar_v B ex) := by rw [hxa, List.map_cons, ar_vge (by omega), (had j hj).1]
                  rw [hrev] at hp ⊢
                  have hlen : as'.length + 1 = xs.length := by rw [← List.length_reverse (as := xs), hxa]; rfl
                  exact va_runV (As := as'.map (ar_v B ex)) ⟨hx, hb, hml, hown, hts⟩ hM (cwV _ hts hG rfl rfl rfl ⟨rfl, hmh.1, hmh.2.1, hmh.2.2⟩ (hR _ _ _ hz2)) ⟨hp.1, by rw [hcls]; exact vk_recv hstr hj hS, hp.2⟩ rfl (by rw [List.length_map]; omega) hl.1 (by rw [hstk, hrev]; simp) hrestV hdg hf2
            · cases hck
          · -- invokespecial
            simp only [ar_chk] at hck
            split at hck
            · rename_i hDe
              injection hDe with e1 hDe
              injection hDe with e2 hDe
              injection hDe with e3 hDe
              injection hDe with e4 hDe
              injection hDe with e5 hDe
              subst e1 e2 e3 e4 e5
              have hb3 : Nat.beq kd 3 = false := by
                cases hq : Nat.beq kd 3 with
                | false => rfl
                | true => exact absurd (Nat.eq_of_beq_eq_true hq) hk3
              rw [hb3] at hck
              simp only [cond_false, Bool.and_eq_true, decide_eq_true_eq] at hck
              obtain ⟨⟨hnx3, hz2, rfl, hk1, hna, hmx, hci, hcls⟩, hw⟩ := hck
              obtain ⟨hpl, hmh, hcw, hini, hkz⟩ := ar_mok hz2
              rw [hk1] at hkz
              simp only [Bool.and_eq_true, decide_eq_true_eq] at hkz
              obtain ⟨hin, hnm1, hrt1⟩ := hkz
              obtain rfl : nn = 3 := by omega
              refine go hz2 hmx hnx3 (fun rm mc1 ms1 Pc Qc fr hM hrm hp hf2 => ?_)
              subst hrm
              have hGs := ar_sub (y := y) (ar_w_in hcw)
              rcases hkd with q | ⟨-, a, as', hxa, hna'⟩ | ⟨q, -⟩
              · cases q
              · obtain ⟨tg, I, J, R⟩ := M
                obtain ⟨n', hn'⟩ : ∃ n', am_nth tg a = (ci, n') := ⟨(am_nth tg a).2, Prod.ext hna' rfl⟩
                have hat := am_nth_some hn' (by omega)
                have hal := (List.getElem?_eq_some_iff.mp hat).1
                have hrev : xs.reverse.map (ar_v B ex) = .ref (B + a) :: as'.map (ar_v B ex) := by rw [hxa, List.map_cons, ar_vlt (show a < 1000 by have : tg.length ≤ 900 := h9; omega)]
                rw [hrev] at hp ⊢
                have hlen : as'.length + 1 = xs.length := by rw [← List.length_reverse (as := xs), hxa]; rfl
                split at hw
                · exact va_runI (As := as'.map (ar_v B ex)) ⟨hx, hb, hml, hown, hts⟩ hM (cwI _ hts hGs (by unfold ar_ws; rw [hrt1]) rfl rfl (hts _ (ar_in hini rfl)) (hts _ (ar_in hw rfl)) (hts _ (ar_in hin rfl)) hnm1 ⟨hmh.1, hmh.2.1, hmh.2.2⟩ (hR _ _ _ hz2)) hp rfl (by rw [List.length_map]; omega) hl.1 (by rw [hstk, hrev]; simp) hrestV hdg hf2
                · exact va_runIN (As := as'.map (ar_v B ex)) ⟨hx, hb, hml, hown, hts⟩ hM ⟨va_cnB _ hts hGs (by unfold ar_ws; rw [hrt1]) rfl rfl (hE.2.2.2.2.2.2.1 _ (of_decide_eq_true hw)) (hts _ (ar_in hini rfl)) ⟨hmh.1, hmh.2.1, hmh.2.2⟩ (hR _ _ _ hz2), hnm1, hts _ (ar_in hin rfl)⟩ hp rfl (by rw [List.length_map]; omega) hl.1 (by rw [hstk, hrev]; simp) hrestV hdg hf2
              · cases q
            · cases hck
          · -- invokestatic
            simp only [ar_chk] at hck
            split at hck
            · rename_i hDe
              cases hDe
            · rename_i hDe
              injection hDe with e1 hDe
              injection hDe with e2 hDe
              injection hDe with e3 hDe
              injection hDe with e4 hDe
              injection hDe with e5 hDe
              subst e1 e2 e3 e4 e5
              have hbq : ∀ q : Nat, ¬ kd = q → Nat.beq kd q = false := by
                intro q hq2
                cases hq : Nat.beq kd q with
                | false => rfl
                | true => exact absurd (Nat.eq_of_beq_eq_true hq) hq2
              rw [hbq 6 hk6, hbq 8 hk8, hbq 9 hk9] at hck
              simp only [cond_false, Bool.and_eq_true, decide_eq_true_eq] at hck
              obtain ⟨⟨hnx3, hz2, rfl, hk1, hna, hmx⟩, hw⟩ := hck
              obtain ⟨hpl, hmh, hcw, hini, hkz⟩ := ar_mok hz2
              rw [hk1] at hkz
              obtain rfl : nn = 3 := by omega
              refine go hz2 hmx hnx3 (fun rm mc1 ms1 Pc Qc fr hM hrm hp hf2 => ?_)
              subst hrm
              have hGs := ar_sub (y := y) (ar_w_in hcw)
              split at hw
              · exact va_runS (As := xs.reverse.map (ar_v B ex)) ⟨hx, hb, hml, hown, hts⟩ hM (va_cwS _ hts (ar_goodS hw hkz hini hcw) rfl rfl rfl ⟨hmh.1, hmh.2.1, hmh.2.2⟩ (hR _ _ _ hz2)) hp rfl (by rw [List.length_map, List.length_reverse]; omega) hl.1 hstk hrestV hdg hf2
              · exact va_runSN (As := xs.reverse.map (ar_v B ex)) ⟨hx, hb, hml, hown, hts⟩ hM ⟨va_cnB _ hts hGs rfl rfl rfl (hE.2.2.2.2.2.2.1 _ (of_decide_eq_true hw)) (hts _ (ar_in hini rfl)) ⟨hmh.1, hmh.2.1, hmh.2.2⟩ (hR _ _ _ hz2), hts _ (ar_in hkz rfl), trivial⟩ hp rfl (by rw [List.length_map, List.length_reverse]; omega) hl.1 hstk hrestV hdg hf2
            · cases hck
        · -- a return
          obtain ⟨w, rfl, hw⟩ := hret
          cases hrun
          obtain ⟨nn, hdg, hnx, hck⟩ := ar_dec hy hf
          obtain ⟨hx, hb, hml, hrt, hts, hown, hlocks, hnm, hK, hE⟩ := id C
          obtain ⟨hP, hS, hA, h9, hz, hn, hl⟩ := id hr
          have hex := hE.2.2.2.2.2.1
          rw [Nat.sub_self, Nat.add_zero] at hmc hms
          subst hmc
          subst hms
          have hq : ∀ t : State, t.heap = H → s.WarmedH t.vm → ar_Q B ex cI cJ cS dC dI A al v M args s (.returned (v.map (ar_v B ex))) t := fun t ht hW => ⟨rfl, by rw [ht]; exact hP, hS.F ht, fun q => by rw [ht]; exact (hz q).1⟩
          rcases hw with ⟨rfl, x, rfl, rfl, hD⟩ | ⟨rfl, x, rfl, rfl⟩ | ⟨rfl, x, hx2, rfl, rfl⟩ | ⟨rfl, rfl, rfl⟩
          · simp only [ar_chk, Bool.and_eq_true, decide_eq_true_eq] at hck
            obtain ⟨rfl, hck⟩ := hck
            obtain rfl : nn = 1 := by omega
            rcases hD with rfl | ⟨rfl, hp⟩ | ⟨rfl, hp⟩ | ⟨rfl, hp⟩
            · exact W.zret (ty := .int) hx hb (hrt.trans (of_decide_eq_true hck)) rfl hq hS.2.2 hdg
            · exact W.zret (ty := .boolean) hx hb (hrt.trans (of_decide_eq_true hck)) (by rcases hp with rfl | rfl <;> rfl) hq hS.2.2 hdg
            · exact W.zret (ty := .char) hx hb (hrt.trans (of_decide_eq_true hck)) (ar_char hp) hq hS.2.2 hdg
            · exact W.zret (ty := .byte) hx hb (hrt.trans (of_decide_eq_true hck)) (by rw [hp]; rfl) hq hS.2.2 hdg
          · simp only [ar_chk, decide_eq_true_eq] at hck
            obtain ⟨rfl, hck⟩ := hck
            obtain rfl : nn = 1 := by omega
            exact W.lret hx hb (hrt.trans hck) hq hS.2.2 hdg
          · simp only [ar_chk, Bool.and_eq_true, decide_eq_true_eq] at hck
            obtain ⟨rfl, hck⟩ := hck
            obtain rfl : nn = 1 := by omega
            split at hck
            · rename_i cn hcn
              exact W.aret hx hb (hrt.trans hcn) (Or.inl ⟨_, rfl⟩) (ar_vref hex hx2) hq hS.2.2 hdg
            · cases hck
          · simp only [ar_chk, decide_eq_true_eq] at hck
            obtain ⟨rfl, hck⟩ := hck
            obtain rfl : nn = 1 := by omega
            exact W.vret hx hb (hrt.trans hck) hq hS.2.2 hdg
