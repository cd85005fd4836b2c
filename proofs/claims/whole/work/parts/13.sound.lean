/-! THE MAIN ROW: whole runs, calls and all -/
def ar_Q (B : Nat) (ex : Nat → Value) (cI cJ cS : ClassId) (dC : Nat → ClassId) (dI : Nat → Nat → Nat) (A : Nat → Prop) (al : Bool) (v : Option Value) (M' : am_M) : Array Value → State → Outcome → State → Prop := fun _ st o t =>
  o = .returned (v.map (ar_v B ex)) ∧ va_P (dC, dI) vwCl (ar_W B ex cI cJ cS M') t.heap ∧ va_F A st t ∧ (al = true → B + M'.1.length ≤ t.heap.size)
def ar_Pc (B : Nat) (ex : Nat → Value) (cI cJ cS : ClassId) (dC : Nat → ClassId) (dI : Nat → Nat → Nat) (al : Bool) (sz : Nat) (M : am_M) (as : List Value) : Array Value → State → Prop := va_Pc (as.map (ar_v B ex)) (fun U => U.heap.size = sz ∧ va_P (dC, dI) vwCl (ar_W B ex cI cJ cS M) U.heap ∧ va_K (dC, dI) vwCl (ar_tys cI cJ cS) U ∧ ar_X ex (va_A (ar_W B ex cI cJ cS M) sz) U U.heap ∧ M.1.length ≤ 900 ∧ (al = true → B + M.1.length = sz))
def ar_Sound (n : Nat) : Prop := ∀ {p : Program} {l : Launch} {e : Env} {Rm : Room} {s : State} {m : MethodId} {args : Array Value} {below : List Frame} {meth : Method} {c : Code} {al : Bool} {B : Nat} {ex : Nat → Value} {cI cJ cS : ClassId} {dC : Nat → ClassId} {dI : Nat → Nat → Nat} {A : Nat → Prop} {y d : Nat} {H : Heap} {locs : List Loc} {lsl : Array Slot} {cells slots mc ms pc : Nat} {ls st : List Value} {M M' : am_M} {v : Option Value},
  ar_Cx p s m args meth c A ex cI cJ cS dC dI y → (∀ q, s.heap.size ≤ q → A q) → y < am_N → am_run al n d y (pc, ls, st, M) = some (v, M') → ar_St s dC dI cI cJ cS B ex A al (am_mt y).2.2.1 cells M ls H locs lsl → d + 1 ≤ Rm.frames → 64 * (d + 1) ≤ Rm.locals →
  mc = cells + (M'.1.length - M.1.length) → ms = slots + (ar_sum M'.1 - ar_sum M.1) → mc ≤ Rm.cells → ms ≤ Rm.slots →
  W p l e Rm s m args below meth c H locs cells slots (MQ below (ar_Q B ex cI cJ cS dC dI A al v M') args s mc ms A) (F0 m pc lsl (st.map (ar_v B ex)))
def ar_rm (d mc ms : Nat) : Room := { frames := d + 1, cells := mc, slots := ms, locals := 64 * (d + 1) }
theorem am_fill_len : ∀ n, (am_fill n).length = n
  | 0 => rfl
  | n + 1 => by rw [am_fill, List.length_cons, am_fill_len n]
theorem am_fill_get : ∀ (n i : Nat), am_get (am_fill n) i = .retAddr 0
  | 0, _ => rfl
  | _ + 1, 0 => rfl
  | n + 1, i + 1 => am_fill_get n i
theorem am_loc_len : ∀ (as : List Value) (n : Nat), am_ws as ≤ n → (am_loc n as).length = n := by
  intro as
  induction as with
  | nil => intro n _; simp [am_loc, am_fill_len]
  | cons v r ih =>
    intro n h
    cases v <;> simp only [am_ws] at h <;> simp only [am_loc, List.length_cons] <;> rw [ih _ (by omega)] <;> omega
theorem am_loc_get {B : Nat} {ex : Nat → Value} (hex : ∀ k : Nat, ex k = .null ∨ ∃ a : Nat, ex k = .ref a) : ∀ (as : List Value) (n o i : Nat) (w : Value), am_get (am_loc n as) i = w → (∀ a, w ≠ .retAddr a) → (o + i, ar_v B ex w) ∈ lv_args o (as.map (ar_v B ex)) := by
  intro as
  induction as with
  | nil => intro n o i w h hw; rw [am_loc, am_fill_get] at h; exact absurd h.symm (hw 0)
  | cons v r ih =>
    intro n o i w h hw
    rw [List.map_cons, lv_args, ar_v_cat hex]
    have one : v.category = 1 → am_get (v :: am_loc (n - 1) r) i = w → (o + i, ar_v B ex w) ∈ (o, ar_v B ex v) :: lv_args (if v.category = 2 then o + 2 else o + 1) (r.map (ar_v B ex)) := by
      intro hc h
      rw [if_neg (by omega)]
      cases i with
      | zero => rw [show v = w from h]; exact List.mem_cons_self
      | succ i => exact List.mem_cons_of_mem _ (by have := ih (n - 1) (o + 1) i w h hw; rwa [show o + 1 + i = o + (i + 1) by omega] at this)
    have two : v.category = 2 → am_get (v :: .retAddr 0 :: am_loc (n - 2) r) i = w → (o + i, ar_v B ex w) ∈ (o, ar_v B ex v) :: lv_args (if v.category = 2 then o + 2 else o + 1) (r.map (ar_v B ex)) := by
      intro hc h
      rw [if_pos hc]
      cases i with
      | zero => rw [show v = w from h]; exact List.mem_cons_self
      | succ i =>
        cases i with
        | zero => exact absurd (show Value.retAddr 0 = w from h).symm (hw 0)
        | succ i => exact List.mem_cons_of_mem _ (by have := ih (n - 2) (o + 2) i w h hw; rwa [show o + 2 + i = o + (i + 2) by omega] at this)
    cases v <;> first | exact two rfl h | exact one rfl h
theorem ar_sl {B : Nat} {ex : Nat → Value} (hex : ∀ k : Nat, ex k = .null ∨ ∃ a : Nat, ex k = .ref a) : ∀ (as : List Value), (lg_sl (as.map (ar_v B ex))).length = am_ws as := by
  intro as
  induction as with
  | nil => rfl
  | cons v r ih =>
    rw [List.map_cons]
    show (lg_sl ([ar_v B ex v] ++ r.map (ar_v B ex))).length = _
    have h : lg_sl ([ar_v B ex v] ++ r.map (ar_v B ex)) = lg_sl [ar_v B ex v] ++ lg_sl (r.map (ar_v B ex)) := by simp [lg_sl]
    rw [h, List.length_append, ih]
    have h2 := ar_v_cat (B := B) hex v
    have h3 : (lg_sl [ar_v B ex v]).length = (ar_v B ex v).category := by
      rcases lv_cat (ar_v B ex v) with q | q <;> simp [lg_sl, q]
    have h4 : am_ws (v :: r) = v.category + am_ws r := by
      cases v <;> simp only [am_ws, Value.category] <;> omega
    rw [h3, h4, h2]
theorem ar_blind {B : Nat} {ex : Nat → Value} {cI cJ cS : ClassId} {dC : Nat → ClassId} {dI : Nat → Nat → Nat} {al : Bool} {sz : Nat} {M : am_M} {as : List Value} : FrameBlind (ar_Pc B ex cI cJ cS dC dI al sz M as) := by
  intro a U g mk h
  obtain ⟨h1, h2, h3, h4, h5, h6⟩ := h
  exact ⟨h1, h2, h3, va_K.moved (u := U) (U := U.calling g mk a) (Vm.Alike.refl U.vm) h4, ar_X.calling (u := U) (U := U.calling g mk a) rfl h5, h6⟩
/-- a method's contract out of a run -/
theorem ar_met {n : Nat} (hS : ar_Sound n) {l : Launch} {al : Bool} {B : Nat} {ex : Nat → Value} {cI cJ cS : ClassId} {dC : Nat → ClassId} {dI : Nat → Nat → Nat} {y d sz mc ms : Nat} {as : List Value} {M M' : am_M} {v : Option Value} (hy : y < am_N) (hex : ∀ k : Nat, ex k = .null ∨ ∃ a : Nat, ex k = .ref a) (hw : am_ws as ≤ (am_mt y).2.2.1)
    (hrun : am_run al n d y (0, am_loc (am_mt y).2.2.1 as, [], M) = some (v, M')) (hmc : mc = M'.1.length - M.1.length) (hms : ms = ar_sum M'.1 - ar_sum M.1) :
    Met l (am_mt y).1 (ar_ws y) (ar_rm d mc ms) (ar_Pc B ex cI cJ cS dC dI al sz M as) (ar_Q B ex cI cJ cS dC dI (va_A (ar_W B ex cI cJ cS M) sz) al v M') mc ms (va_A (ar_W B ex cI cJ cS M) sz) := by
  have hm := ar_every y hy
  unfold ar_all ar_meth at hm
  rw [Bool.and_eq_true] at hm
  have hm := hm.1
  simp only [Bool.and_eq_true] at hm
  obtain ⟨⟨⟨⟨hpl, hmh⟩, hcw⟩, hini⟩, hkd⟩ := hm
  refine Met.ofW (cc := (am_mt y).2.1) (maxL := (am_mt y).2.2.1) (ret := (am_mt y).2.2.2.1) hpl rfl ?_
  intro p e s m args below meth c s₁ Bd hml hv
  obtain ⟨rfl, hsz, hP, hK, hX, h9, hz⟩ := hv
  subst hsz
  have hown : s.vm.findClass (am_mt y).1.cls = some m.cls := findClass_of_methodNamed Bd.named
  have hl := lv_entry (as.map (ar_v B ex)) (n := (am_mt y).2.2.1) (by rw [ar_sl hex]; exact hw)
  rw [lg_entry_eq]
  have hl2 : lv_has ((lg_sl (as.map (ar_v B ex)) ++ List.replicate ((am_mt y).2.2.1 - (lg_sl (as.map (ar_v B ex))).length) Slot.unset).toArray) (am_mt y).2.2.1 (ar_lv B ex (am_loc (am_mt y).2.2.1 as)) := hl.less (fun q hq => by
    obtain ⟨w, h1, h2, h3⟩ := ar_lv_mem.mp hq
    have := am_loc_get (B := B) hex as _ 0 q.1 w h1 h2
    rw [Nat.zero_add, ← h3] at this
    exact this)
  refine hS (st := []) ⟨Bd.exec, Bd.bytes, hml, Bd.returns, atoms_spec (ws := ar_ws y) Bd.pre, hown, Bd.notSynchronized, (name_of_methodNamed Bd.named Bd.method).1, hK, hX⟩ (fun q h => Or.inr h) hy hrun ⟨hP, va_S.rf, fun k hk => ?_, h9, fun q => ⟨Nat.le_of_eq (hz q), (hz q)⟩, Nat.le_of_eq (am_loc_len as _ hw), hl2⟩ (Nat.le_refl _) (Nat.le_refl _) (by omega) (by omega) (Nat.le_refl _) (Nat.le_refl _)
  exact va_A.in (q := (B + k, ar_cell B ex cI cJ cS M.2.1 M.2.2.1 M.2.2.2 k (M.1[k]'hk))) (k := k) (by
    obtain ⟨tg, I, J, R⟩ := M
    exact ar_W_at (List.getElem?_eq_getElem hk))
