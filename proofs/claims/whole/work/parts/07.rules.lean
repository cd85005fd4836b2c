/-! RUNS OF THE ABSTRACT MACHINE, and the rules by which a method's run is told: goal first, as the kit's W, but over the memory alone. -/
def am_step (al : Bool) (y : Nat) (c : am_C) : am_O := match c with
  | (pc, ls, st, M) => (match am_find (am_code y) pc with
    | some (_, i, nx, _, D, L) => am_sem al i nx D L ls st M
    | none => none)
/-- straight on, to the first instruction that is no plain one (or a loop's head) -/
def am_adv (al : Bool) : Nat → Nat → am_C → Option am_C
  | 0, _, c => some c
  | n + 1, y, (pc, ls, st, M) => (match am_find (am_code y) pc with
    | some (_, i, nx, fl, D, L) => (match fl with
      | 0 => (match am_sem al i nx D L ls st M with
        | some (.inl c') => am_adv al n y c'
        | _ => none)
      | _ => some (pc, ls, st, M))
    | none => none)
/-- one step from a loop's head (or anywhere plain), then straight on -/
def am_adv1 (al : Bool) (n y : Nat) (c : am_C) : Option am_C := match am_step al y c with
  | some (.inl c') => am_adv al n y c'
  | _ => none
/-- n calls deep at most d: what comes back and the memory -/
def am_run (al : Bool) : Nat → Nat → Nat → am_C → Option (Option Value × am_M)
  | 0, _, _, _ => none
  | n + 1, d, y, c => (match am_step al y c with
    | none => none
    | some (.inl c') => am_run al n d y c'
    | some (.inr (.inl (y', a, (pc, ls, st, M)))) => (match d with
      | 0 => none
      | d' + 1 => (match am_run al n d' y' (0, a, [], M) with
        | none => none
        | some (v, M') => am_run al n d y (pc, ls, v.toList ++ st, M')))
    | some (.inr (.inr r)) => some r)
theorem am_mono {al : Bool} : ∀ (n n' d d' y : Nat) (c : am_C) (r : Option Value × am_M), n ≤ n' → d ≤ d' → am_run al n d y c = some r → am_run al n' d' y c = some r := by
  intro n
  induction n with
  | zero => intro n' d d' y c r _ _ h; simp [am_run] at h
  | succ n ih =>
    intro n' d d' y c r hn hd h
    obtain ⟨m, rfl⟩ : ∃ m, n' = m + 1 := ⟨n' - 1, by omega⟩
    have hm : n ≤ m := by omega
    rw [am_run] at h ⊢
    cases hs : am_step al y c with
    | none => rw [hs] at h; cases h
    | some o =>
      rw [hs] at h
      rcases o with c' | ⟨y', a, pc, ls, st, M⟩ | r'
      · exact ih m d d' y c' r hm hd h
      · cases d with
        | zero => cases h
        | succ e =>
          obtain ⟨e', rfl⟩ : ∃ e', d' = e' + 1 := ⟨d' - 1, by omega⟩
          dsimp only at h ⊢
          cases hc : am_run al n e y' (0, a, [], M) with
          | none => rw [hc] at h; cases h
          | some q =>
            obtain ⟨v, M'⟩ := q
            rw [hc] at h
            rw [ih m e e' y' (0, a, [], M) (v, M') hm (by omega) hc]
            exact ih m (e + 1) (e' + 1) y _ r hm hd h
      · exact h
def am_E (d y : Nat) (c : am_C) (Q : Option Value → am_M → Prop) : Prop := ∃ (n : Nat) (v : Option Value) (M' : am_M), am_run false n d y c = some (v, M') ∧ Q v M'
section AMR
variable {d d' y y' : Nat} {c c' c1 c2 : am_C} {Q Q' : Option Value → am_M → Prop} {p : Prop} {v : Option Value} {M : am_M}
theorem am_E.step (h : am_step false y c = some (.inl c')) (k : am_E d y c' Q) : am_E d y c Q := by
  obtain ⟨n, v, M', h1, h2⟩ := k
  exact ⟨n + 1, v, M', by rw [am_run, h]; exact h1, h2⟩
theorem am_E.adv {n : Nat} (h : am_adv false n y c = some c') (k : am_E d y c' Q) : am_E d y c Q := by
  induction n generalizing c with
  | zero => simp only [am_adv, Option.some.injEq] at h; subst h; exact k
  | succ n ih =>
    obtain ⟨pc, ls, st, M⟩ := c
    rw [am_adv] at h
    cases hf : am_find (am_code y) pc with
    | none => rw [hf] at h; cases h
    | some e =>
      obtain ⟨e0, i, nx, fl, D, L⟩ := e
      rw [hf] at h
      dsimp only at h
      split at h
      · cases hs : am_sem false i nx D L ls st M with
        | none => rw [hs] at h; cases h
        | some o =>
          rw [hs] at h
          rcases o with c2 | o
          · exact am_E.step (c' := c2) (by show am_step false y (pc, ls, st, M) = _; simp only [am_step, hf, hs]) (ih h)
          · cases h
      · cases h; exact k
theorem am_E.go {n : Nat} (h : am_adv1 false n y c = some c') (k : am_E d y c' Q) : am_E d y c Q := by
  rw [am_adv1] at h
  cases hs : am_step false y c with
  | none => rw [hs] at h; cases h
  | some o =>
    rw [hs] at h
    rcases o with c2 | o
    · exact am_E.step hs (am_E.adv h k)
    · cases h
theorem am_E.brk [Decidable p] (h : am_step false y c = am_brk p c1 c2) (k1 : p → am_E d y c1 Q) (k2 : ¬ p → am_E d y c2 Q) : am_E d y c Q := by
  by_cases hp : p
  · exact am_E.step (h.trans (by rw [am_brk, if_pos hp])) (k1 hp)
  · exact am_E.step (h.trans (by rw [am_brk, if_neg hp])) (k2 hp)
theorem am_E.grd [Decidable p] (h : am_step false y c = am_grd p (some (.inl c'))) (hp : p) (k : am_E d y c' Q) : am_E d y c Q := am_E.step (h.trans (by rw [am_grd, if_pos hp])) k
theorem am_E.call {a ls st : List Value} {pc : Nat} (h : am_step false y c = some (.inr (.inl (y', a, (pc, ls, st, M))))) (hd : d' < d) (hc : am_E d' y' (0, a, [], M) Q') (k : ∀ v M', Q' v M' → am_E d y (pc, ls, v.toList ++ st, M') Q) : am_E d y c Q := by
  obtain ⟨n, v, M', h1, h2⟩ := hc
  obtain ⟨n2, v2, M2, h3, h4⟩ := k v M' h2
  obtain ⟨e, rfl⟩ : ∃ e, d = e + 1 := ⟨d - 1, by omega⟩
  refine ⟨max n n2 + 1, v2, M2, ?_, h4⟩
  rw [am_run, h]
  dsimp only
  rw [am_mono n (max n n2) d' e y' _ _ (Nat.le_max_left _ _) (by omega) h1]
  exact am_mono n2 (max n n2) (e + 1) (e + 1) y _ _ (Nat.le_max_right _ _) (Nat.le_refl _) h3
theorem am_E.callG {a ls st : List Value} {pc : Nat} [Decidable p] (h : am_step false y c = am_grd p (some (.inr (.inl (y', a, (pc, ls, st, M)))))) (hp : p) (hd : d' < d) (hc : am_E d' y' (0, a, [], M) Q') (k : ∀ v M', Q' v M' → am_E d y (pc, ls, v.toList ++ st, M') Q) : am_E d y c Q := am_E.call (h.trans (by rw [am_grd, if_pos hp])) hd hc k
theorem am_E.ret (h : am_step false y c = some (.inr (.inr (v, M)))) (hq : Q v M) : am_E d y c Q := ⟨1, v, M, by rw [am_run, h], hq⟩
theorem am_E.retG [Decidable p] (h : am_step false y c = am_grd p (some (.inr (.inr (v, M))))) (hp : p) (hq : Q v M) : am_E d y c Q := am_E.ret (h.trans (by rw [am_grd, if_pos hp])) hq
def am_SW (x : Int32) : List (Int32 × Nat) → Nat → (Nat → Prop) → Prop
  | [], e, k => k e
  | (v, t) :: r, e, k => (x = v → k t) ∧ (¬ x = v → am_SW x r e k)
theorem am_SW.use {x : Int32} {k : Nat → Prop} {e : Nat} : ∀ {L : List (Int32 × Nat)}, am_SW x L e k → k (am_tgt x L e)
  | [], h => h
  | (v, t) :: r, h => by
    rw [am_tgt]
    by_cases hx : x = v
    · rw [if_pos hx]; exact h.1 hx
    · rw [if_neg hx]; exact am_SW.use (h.2 hx)
theorem am_E.sw {x : Int32} {L : List (Int32 × Nat)} {e : Nat} {ls st : List Value} (h : am_step false y c = am_swo x L e ls st M) (k : am_SW x L e (fun t => am_E d y (t, ls, st, M) Q)) : am_E d y c Q := am_E.step h (am_SW.use (k := fun t => am_E d y (t, ls, st, M) Q) k)
theorem am_E.post (h : am_E d y c Q) (k : ∀ v M, Q v M → Q' v M) : am_E d y c Q' := by
  obtain ⟨n, v, M', h1, h2⟩ := h
  exact ⟨n, v, M', h1, k v M' h2⟩
theorem am_E.deep (h : am_E d' y c Q) (hd : d' ≤ d) : am_E d y c Q := by
  obtain ⟨n, v, M', h1, h2⟩ := h
  exact ⟨n, v, M', am_mono n n d' d y c _ (Nat.le_refl _) hd h1, h2⟩
end AMR
