/-! THE CLAIM OUT OF ONE WALK OF THE LAW'S BODY. Your part is whole_start (and what it stands on); all else here is the same for every law, but numbers. -/
def R_law : String := "PetalPicturesLaw"
def lw_P (b : Addr) (xs : List Int32) (args : Array Value) (s : State) : Prop := args = #[.ref b] ∧ s.IntsAt b xs ∧ xs.length ≤ 3072 ∧ (Jvm.Cond.and given_1 narrow_1).before args s = true
def lw_Q (_ : Array Value) (s : State) (o : Outcome) (t : State) : Prop := o = .returned (some (.int 1)) ∧ Framed s o t [] 600000 7302250
def lw_Z (below : List Frame) (a : Array Value) (s : State) : State → Prop := fun t => ∃ o, t.status = .running ∧ Ended t below o ∧ lw_Q a s o t
/-- the law's own end, with 1 on the stack, nothing written that was there before, its room as the claim has it -/
theorem lw_ret {p : Program} {l : Launch} {e : Env} {s : State} {m : MethodId} {below : List Frame} {meth : Method} {c : Code} {b : Nat} (hx : p.tables.exec = Jvm.exec) (hb : c.code = code) (hr : meth.sig.returnType = ret) (hlocks : meth.locks = false) {pc : Nat} {H : Heap} {ls : Array Slot} (hdg : decode code pc = .ok (.ireturn, 1)) : W p l e room_1 s m #[Value.ref b] below meth c H [] 600000 7302250 (lw_Z below #[Value.ref b] s) (F0 m pc ls [.int 1]) := by
  intro T hT X
  obtain ⟨fs, hret, hrun, hended, hW, hframe⟩ := X.leave (v := some (.int 1)) (hlocks := hlocks) (fun h => by rw [hr] at h; cases h)
  have hmeth' : T.vm.method? m = some meth := X.method'
  refine ⟨T.setFrames fs, ?_, .returned (some (.int 1)), hrun, hended, rfl, ⟨_, rfl⟩, hW, hframe⟩
  jvm_step X.here [X.here.top, hx, hb, hdg, hmeth', hr, ret, narrow_b1]
  (try refine ⟨rfl, ?_⟩); (try refine ⟨rfl, ?_⟩)
  first | (intro acts; rw [hret _ acts rfl rfl rfl]) | rw [hret _ _ rfl rfl rfl]
  exact Steps.refl _
/-- what holds at the law's entry: the machine, the code, the tables' words (any of lw_tbl by 'hts w (by decide +kernel)'), the script of L ints xs at the cell b, what the Statement gives of the start (any of its parts by flat_of_before) -/
def lw_At (p : Program) (s : State) (m : MethodId) (meth : Method) (c : Code) (b L : Nat) (xs : Nat → Int32) : Prop :=
  p.tables.exec = Jvm.exec ∧ c.code = code ∧ meth.sig.returnType = ret ∧ c.maxLocals = 4 ∧ s.vm.findClass R_law = some m.cls ∧ (∀ w ∈ lw_tbl, w.before #[Value.ref b] s = true) ∧ va_X b L xs s s.heap ∧ b < s.heap.size ∧ meth.locks = false ∧ (Jvm.Cond.and given_1 narrow_1).before #[Value.ref b] s = true
/-! THE LAW'S ENTRY: what the machine's start gives of the classes, of the arrays, and of what lies outside -/
theorem lw_K {b : Nat} {s : State} (hts : ∀ w ∈ lw_tbl, w.before #[Value.ref b] s = true) : ∃ (dC : Nat → ClassId) (dI : Nat → Nat → Nat) (cI cJ cS : ClassId), va_K (dC, dI) vwCl (ar_tys cI cJ cS) s := by
  have h : ∀ k : Nat, ∃ q : ClassId × (Nat → Nat), k < 7 → u_Kn s (ar_C k) (ar_T k) (ar_N k) q.1 q.2 := by
    intro k
    by_cases hk : k < 7
    · obtain ⟨c, i, hK⟩ := u_known (ws := lw_tbl) (C := ar_C k) (T := ar_T k) (N := ar_N k) (n := ar_N k) hts (fun w hw => ((ar_cls k hk).2.1 w hw).1) (hts _ (ar_inst k hk).1)
      exact ⟨(c, i), fun _ => hK⟩
    · exact ⟨(0, fun _ => 0), fun q => absurd q hk⟩
  obtain ⟨f, hf⟩ := Classical.axiomOfChoice h
  obtain ⟨cI, kI, pI, i1, i2, i3⟩ := Cond.arrayClass_spec (hts _ ar_arrW.1)
  obtain ⟨cJ, kJ, pJ, j1, j2, j3⟩ := Cond.arrayClass_spec (hts _ ar_arrW.2)
  obtain ⟨pS, cS, kS, s1, s2, s3, s4, s5⟩ := Cond.arrayOver_spec (hts (.arrayOver (.object RX3)) (by decide +kernel))
  refine ⟨fun k => (f k).1, fun k => (f k).2, cI, cJ, cS, fun k q hq => ?_, fun k q hq => ?_⟩
  · have hk : k < 7 := (List.getElem?_eq_some_iff.mp hq).1
    rw [(ar_cls k hk).1] at hq
    cases hq
    exact hf k hk
  · match k, hq with
    | 0, hq => cases hq; exact ⟨fun n z => ⟨fun k h => (by cases h), kI, i2, pI, i3⟩, i1⟩
    | 1, hq => cases hq; exact ⟨fun n z => ⟨fun k h => (by cases h), kJ, j2, pJ, j3⟩, j1⟩
    | 2, hq => cases hq; exact ⟨fun n z => ⟨fun k h => (by cases h), kS, s3, pS, s4⟩, kS, pS, s3, s4, s1, s5⟩
    | k + 3, hq => cases hq
theorem lw_nest : ∀ q ∈ ar_nest, Cond.methodLinkNest q.1 q.2.1 q.2.2 "PetalPictures" ∈ lw_tbl := by decide +kernel

abbrev lw_T (i : Nat) : Term := .string "PetalPictures$Village" (53 + 2 * i)
abbrev lw_V (i : Nat) : Term := .field (lw_T i) "java/lang/String" "value" "[B"
abbrev lw_G : Cond := Jvm.Cond.and given_1 narrow_1
theorem lw_strings {b : Nat} {s : State} (hs : ∀ w ∈ flatC lw_G, w.before #[Value.ref b] s = true) : ∃ adK adV : Nat → Nat, vk_S 7 am_lens am_words adK adV (fun q => s.heap.size ≤ q) s s.heap ∧ ∀ i : Nat, i < 7 → (lw_T i).eval #[Value.ref b] s none [] s = some (.ref (adK i)) :=
  vk_Sof (tm := lw_T) (by decide +kernel)
    (fun i hi => hs _ ((by decide +kernel : ∀ i : Nat, i < 7 → Cond.exactly (lw_T i) "java/lang/String" ∈ flatC lw_G) i hi))
    (fun i hi => hs _ ((by decide +kernel : ∀ i : Nat, i < 7 → Cond.eq (.field (lw_T i) "java/lang/String" "coder" "B") (.int 0) ∈ flatC lw_G) i hi))
    (fun i hi => hs _ ((by decide +kernel : ∀ i : Nat, i < 7 → Cond.arrayOf (lw_V i) .byte ∈ flatC lw_G) i hi))
    (fun i hi => hs _ ((by decide +kernel : ∀ i : Nat, i < 7 → Cond.eq (.length (lw_V i)) (.int (Int32.ofNat (am_lens.getD i 0))) ∈ flatC lw_G) i hi))
    (fun i hi j hj => hs _ ((by decide +kernel : ∀ i : Nat, i < 7 → ∀ j : Nat, j < am_lens.getD i 0 → Cond.eq (.elem (lw_V i) (.int (Int32.ofNat j))) (.int ((am_words.getD i []).getD j 0)) ∈ flatC lw_G) i hi j hj))
    (fun i j hi hj hij => by
      rcases (by decide +kernel : ∀ i : Nat, i < 7 → ∀ j : Nat, j < 7 → i ≠ j → Cond.not (Cond.eq (lw_T i) (lw_T j)) ∈ flatC lw_G ∨ Cond.not (Cond.eq (lw_T j) (lw_T i)) ∈ flatC lw_G) i hi j hj hij with h | h
      · exact Or.inl (hs _ h)
      · exact Or.inr (hs _ h))
    (fun a ha q => absurd ha (Nat.not_lt.mpr q))
abbrev lw_A : Term := .static "PetalPictures$Kind" "ABOVE" "[I"
abbrev lw_B : Term := .static "PetalPictures$Acts" "BODIES" "[I"
theorem lw_above {b : Nat} {s : State} (hts : ∀ w ∈ lw_tbl, w.before #[Value.ref b] s = true) (hs : ∀ w ∈ flatC lw_G, w.before #[Value.ref b] s = true) : ∃ t : Nat, va_Z "PetalPictures$Kind" "ABOVE" "[I" (.ref t) (fun q => s.heap.size ≤ q) s s.heap ∧ va_T .int t 7 (fun j => .int (am_nthI am_above j)) (fun q => s.heap.size ≤ q) s s.heap := by
  have hA : ∀ a : Nat, a < s.heap.size → ¬ (fun q => s.heap.size ≤ q) a := fun a ha q => absurd ha (Nat.not_lt.mpr q)
  obtain ⟨t, h1, h2⟩ := va_Tof (tm := lw_A) (ty := .int) (N := 7) (f := fun j => .int (am_nthI am_above j)) (by decide) (hs _ (by decide +kernel)) (va_eqt (hs (.eq (.length lw_A) (.int (Int32.ofNat 7))) (by decide +kernel))) (fun j hj => va_eqt (hs _ ((by decide +kernel : ∀ j : Nat, j < 7 → Cond.eq (.elem lw_A (.int (Int32.ofNat j))) (.int (am_nthI am_above j)) ∈ flatC lw_G) j hj))) hA
  exact ⟨t, va_Zof (hts _ (by decide +kernel)) (hts _ (by decide +kernel)) h1 hA, h2⟩
theorem lw_bodies {b : Nat} {s : State} (hts : ∀ w ∈ lw_tbl, w.before #[Value.ref b] s = true) (hs : ∀ w ∈ flatC lw_G, w.before #[Value.ref b] s = true) : ∃ t : Nat, va_Z "PetalPictures$Acts" "BODIES" "[I" (.ref t) (fun q => s.heap.size ≤ q) s s.heap ∧ va_T .int t 21 (fun j => .int (am_nthI am_bodies j)) (fun q => s.heap.size ≤ q) s s.heap := by
  have hA : ∀ a : Nat, a < s.heap.size → ¬ (fun q => s.heap.size ≤ q) a := fun a ha q => absurd ha (Nat.not_lt.mpr q)
  obtain ⟨t, h1, h2⟩ := va_Tof (tm := lw_B) (ty := .int) (N := 21) (f := fun j => .int (am_nthI am_bodies j)) (by decide) (hs _ (by decide +kernel)) (va_eqt (hs (.eq (.length lw_B) (.int (Int32.ofNat 21))) (by decide +kernel))) (fun j hj => va_eqt (hs _ ((by decide +kernel : ∀ j : Nat, j < 21 → Cond.eq (.elem lw_B (.int (Int32.ofNat j))) (.int (am_nthI am_bodies j)) ∈ flatC lw_G) j hj))) hA
  exact ⟨t, va_Zof (hts _ (by decide +kernel)) (hts _ (by decide +kernel)) h1 hA, h2⟩
def lw_ex (adK adV : Nat → Nat) (ta tb : Nat) (v : Value) (k : Nat) : Value := if k < 1007 then .ref (adK (k - 1000)) else if k < 1107 then .ref (adV (k - 1100)) else if k = 2000 then .ref ta else if k = 2001 then .ref tb else if k = 2002 then v else .null
theorem lw_X {b : Nat} {s : State} (hts : ∀ w ∈ lw_tbl, w.before #[Value.ref b] s = true) (hgv : lw_G.before #[Value.ref b] s = true) : ∃ ex : Nat → Value, ar_X ex (fun q => s.heap.size ≤ q) s s.heap := by
  have hs := flat_of_before _ hgv
  have hA : ∀ a : Nat, a < s.heap.size → ¬ (fun q => s.heap.size ≤ q) a := fun a ha q => absurd ha (Nat.not_lt.mpr q)
  obtain ⟨adK, adV, h1, h2⟩ := lw_strings hs
  obtain ⟨ta, h3, h4⟩ := lw_above hts hs
  obtain ⟨tb, h5, h6⟩ := lw_bodies hts hs
  have h7 := va_Zof (A := fun q => s.heap.size ≤ q) (C := "java/lang/String") (n := "COMPACT_STRINGS") (d := "Z") (hts _ (by decide +kernel)) (hts _ (by decide +kernel)) (va_eqi (hs (.eq (.static "java/lang/String" "COMPACT_STRINGS" "Z") (.int 1)) (by decide +kernel))) hA
  have h8 : ∃ v : Value, (v = .null ∨ ∃ a : Nat, v = .ref a) ∧ va_Z "jdk/internal/util/Preconditions" "SIOOBE_FORMATTER" "Ljava/util/function/BiFunction;" v (fun q => s.heap.size ≤ q) s s.heap := by
    rcases va_Zqof (A := fun q => s.heap.size ≤ q) (C := "jdk/internal/util/Preconditions") (n := "SIOOBE_FORMATTER") (d := "Ljava/util/function/BiFunction;") (hts _ (by decide +kernel)) (hts _ (by decide +kernel)) (hs _ (by decide +kernel)) hA with q | ⟨t, q⟩
    · exact ⟨_, Or.inl rfl, q⟩
    · exact ⟨_, Or.inr ⟨t, rfl⟩, q⟩
  obtain ⟨v, hv, h8⟩ := h8
  refine ⟨lw_ex adK adV ta tb v, ⟨adK, adV, h1, fun i hi => ⟨?_, ?_, ?_⟩⟩, ⟨ta, rfl, h3, h4⟩, ⟨tb, rfl, h5, h6⟩, h7, h8, fun k => ?_, fun q hq => va_Nw.of rfl (hts _ (lw_nest q hq)), va_AO.of (hts _ (by decide +kernel))⟩
  · unfold lw_ex
    rw [if_pos (by omega), Nat.add_sub_cancel_left]
  · unfold lw_ex
    rw [if_neg (by omega), if_pos (by omega), Nat.add_sub_cancel_left]
  · exact vk_R.of (hts _ ((by decide +kernel : ∀ i : Nat, i < 7 → Cond.stringRef "PetalPictures$Village" (53 + 2 * i) (am_tx i) ∈ lw_tbl) i hi)) (h2 i hi)
  · unfold lw_ex
    split
    · exact Or.inr ⟨_, rfl⟩
    · split
      · exact Or.inr ⟨_, rfl⟩
      · split
        · exact Or.inr ⟨_, rfl⟩
        · split
          · exact Or.inr ⟨_, rfl⟩
          · split
            · exact hv
            · exact Or.inl rfl
