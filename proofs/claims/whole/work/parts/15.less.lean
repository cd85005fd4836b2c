/-! FEWER LOCALS: a run that needs less of the locals goes the same where more is there -/
def am_le : List Value → List Value → Prop
  | [], [] => True
  | a :: r, b :: q => (a = b ∨ (a = .retAddr 0 ∧ b.category = 1)) ∧ am_le r q
  | _, _ => False
def am_ol : am_O → am_O → Prop
  | none, _ => True
  | some (.inl (pc, l0, st, M)), some (.inl (pc', l, st', M')) => pc = pc' ∧ am_le l0 l ∧ st = st' ∧ M = M'
  | some (.inr (.inl (z, a, (pc, l0, st, M)))), some (.inr (.inl (z', a', (pc', l, st', M')))) => z = z' ∧ a = a' ∧ pc = pc' ∧ am_le l0 l ∧ st = st' ∧ M = M'
  | some (.inr (.inr r)), some (.inr (.inr r')) => r = r'
  | _, _ => False
theorem am_le_get : ∀ {l0 l : List Value} {i : Nat} {w : Value}, am_le l0 l → am_get l0 i = w → (∀ a, w ≠ .retAddr a) → am_get l i = w
  | [], [], _, _, _, h, _ => h
  | a :: r, b :: q, 0, w, h, hg, hw => by
    rcases h.1 with e | ⟨e, _⟩
    · rw [← hg]; exact e.symm
    · rw [← hg] at hw; exact absurd e (hw 0)
  | a :: r, b :: q, i + 1, w, h, hg, hw => am_le_get (l0 := r) (l := q) (i := i) h.2 hg hw
  | [], _ :: _, _, _, h, _, _ => h.elim
  | _ :: _, [], _, _, h, _, _ => h.elim
theorem am_set_two {x : Value} {r : List Value} {i : Nat} {v : Value} {k : List Value → am_O} (hx : x.category = 2) : am_set (x :: r) 1 v k = none := by
  cases x <;> first | rfl | (simp [Value.category] at hx; done)
theorem am_set_one {x : Value} {r : List Value} {i : Nat} {v : Value} {k : List Value → am_O} (hx : x.category = 1) : am_set (x :: r) (i + 1) v k = am_set r i v (fun t => k (x :: t)) := by
  cases i with
  | zero => cases x <;> first | rfl | (simp [Value.category] at hx; done)
  | succ i => cases x <;> rfl
theorem am_set_far {x : Value} {r : List Value} {i : Nat} {v : Value} {k : List Value → am_O} : am_set (x :: r) (i + 2) v k = am_set r (i + 1) v (fun t => k (x :: t)) := by
  cases x <;> rfl
theorem am_set_le {v : Value} : ∀ {l0 l : List Value} {i : Nat} {k0 k : List Value → am_O}, am_le l0 l → (∀ t0 t, am_le t0 t → am_ol (k0 t0) (k t)) → am_ol (am_set l0 i v k0) (am_set l i v k)
  | [], [], _, _, _, _, _ => trivial
  | a :: r, b :: q, 0, _, _, h, hk => hk _ _ ⟨Or.inl rfl, h.2⟩
  | a :: r, b :: q, i + 1, k0, k, h, hk => by
    have go : a.category = 1 → b.category = 1 → am_ol (am_set (a :: r) (i + 1) v k0) (am_set (b :: q) (i + 1) v k) := fun ha hb => by
      rw [am_set_one ha, am_set_one hb]
      exact am_set_le h.2 (fun t0 t ht => hk _ _ ⟨h.1, ht⟩)
    rcases h.1 with rfl | ⟨rfl, hb⟩
    · rcases lv_cat a with ha | ha
      · exact go ha ha
      · cases i with
        | zero => rw [am_set_two (i := 0) ha]; trivial
        | succ i =>
          rw [am_set_far, am_set_far]
          exact am_set_le h.2 (fun t0 t ht => hk _ _ ⟨Or.inl rfl, ht⟩)
    · exact go rfl hb
  | [], _ :: _, _, _, _, h, _ => h.elim
  | _ :: _, [], _, _, _, h, _ => h.elim
theorem am_pop_le {k0 k : List Value → List Value → am_O} (hk : ∀ a r, am_ol (k0 a r) (k a r)) : ∀ (n : Nat) (st acc : List Value), am_ol (am_pop n st acc k0) (am_pop n st acc k)
  | 0, st, acc => hk acc st
  | n + 1, v :: st, acc => am_pop_le hk n st (v :: acc)
  | n + 1, [], acc => trivial
section LES
variable {nx : Nat} {D : List Nat} {L : List (Int32 × Nat)} {l0 l st : List Value} {M : am_M}
theorem am_ldi_le (h : am_le l0 l) : am_ol (am_ldi nx D l0 st M) (am_ldi nx D l st M) := by
  unfold am_ldi
  split
  · split
    · rename_i hg
      rw [am_le_get h hg (fun _ e => by cases e)]
      exact ⟨rfl, h, rfl, rfl⟩
    · trivial
  · trivial
theorem am_ldl_le (h : am_le l0 l) : am_ol (am_ldl nx D l0 st M) (am_ldl nx D l st M) := by
  unfold am_ldl
  split
  · split
    · rename_i hg
      rw [am_le_get h hg (fun _ e => by cases e)]
      exact ⟨rfl, h, rfl, rfl⟩
    · trivial
  · trivial
theorem am_lda_le (h : am_le l0 l) : am_ol (am_lda nx D l0 st M) (am_lda nx D l st M) := by
  unfold am_lda
  split
  · split
    · rename_i hg
      rw [am_le_get h hg (fun _ e => by cases e)]
      exact ⟨rfl, h, rfl, rfl⟩
    · rename_i hg
      rw [am_le_get h hg (fun _ e => by cases e)]
      exact ⟨rfl, h, rfl, rfl⟩
    · trivial
  · trivial
theorem am_sti_le (h : am_le l0 l) : am_ol (am_sti nx D l0 st M) (am_sti nx D l st M) := by
  unfold am_sti
  split
  · split
    · exact am_set_le h (fun _ _ ht => ⟨rfl, ht, rfl, rfl⟩)
    · trivial
  · trivial
theorem am_sta_le (h : am_le l0 l) : am_ol (am_sta nx D l0 st M) (am_sta nx D l st M) := by
  unfold am_sta
  split
  · split
    · exact am_set_le h (fun _ _ ht => ⟨rfl, ht, rfl, rfl⟩)
    · exact am_set_le h (fun _ _ ht => ⟨rfl, ht, rfl, rfl⟩)
    · trivial
  · trivial
theorem am_inv2_le {kd y mx ci : Nat} {as rest : List Value} (h : am_le l0 l) : am_ol (am_inv2 kd y mx ci nx l0 as rest M) (am_inv2 kd y mx ci nx l as rest M) := by
  unfold am_inv2 am_grd am_call am_go
  simp only [cond_eq_ite]
  split <;> (try split) <;> first | trivial | exact ⟨rfl, h, rfl, rfl⟩ | exact ⟨rfl, rfl, rfl, h, rfl, rfl⟩
theorem am_copy_le (h : am_le l0 l) : am_ol (am_copy nx l0 st M) (am_copy nx l st M) := by
  unfold am_copy am_grd am_go
  simp only [cond_eq_ite]
  repeat' split
  all_goals first | trivial | exact ⟨rfl, h, rfl, rfl⟩
theorem am_inv_le (h : am_le l0 l) : am_ol (am_inv nx D l0 st M) (am_inv nx D l st M) := by
  unfold am_inv
  split
  · simp only [cond_eq_ite]
    split
    · exact am_copy_le h
    · refine am_pop_le (fun a r => ?_) _ _ _
      split
      · exact am_inv2_le h
      · trivial
  · trivial
theorem am_sem_le {al : Bool} {i : Instr} (h : am_le l0 l) : am_ol (am_sem al i nx D L l0 st M) (am_sem al i nx D L l st M) := by
  unfold am_sem
  split
  all_goals first
    | exact am_ldi_le h
    | exact am_ldl_le h
    | exact am_lda_le h
    | exact am_sti_le h
    | exact am_sta_le h
    | exact am_inv_le h
    | (split
       · split
         · rename_i hg
           rw [am_le_get h hg (fun _ e => by cases e)]
           exact am_set_le h (fun _ _ ht => ⟨rfl, ht, rfl, rfl⟩)
         · trivial
       · trivial)
    | (try simp only [am_cst, am_getf, am_putf, am_gets, am_ldc, am_aldi, am_aldb, am_aldl, am_alda, am_asti, am_astl, am_asta, am_alen, am_new, am_newa, am_ret, am_grd, am_brk, am_swo, am_go, cond_eq_ite]
       repeat' split
       all_goals first | trivial | exact ⟨rfl, h, rfl, rfl⟩ | exact rfl)
end LES
theorem am_run_le {al : Bool} : ∀ (n d y pc : Nat) (l0 l st : List Value) (M : am_M) (r : Option Value × am_M), am_le l0 l → am_run al n d y (pc, l0, st, M) = some r → am_run al n d y (pc, l, st, M) = some r := by
  intro n
  induction n with
  | zero => intro d y pc l0 l st M r _ h; cases h
  | succ n ih =>
    intro d y pc l0 l st M r hl h
    have hs : am_ol (am_step al y (pc, l0, st, M)) (am_step al y (pc, l, st, M)) := by
      simp only [am_step]
      split
      · exact am_sem_le hl
      · trivial
    rw [am_run] at h ⊢
    generalize am_step al y (pc, l0, st, M) = o0 at hs h
    generalize am_step al y (pc, l, st, M) = o at hs
    rcases o0 with _ | ⟨pc1, l1, st1, M1⟩ | ⟨z, a, pc1, l1, st1, M1⟩ | r0
    · cases h
    · rcases o with _ | ⟨pc2, l2, st2, M2⟩ | ⟨z2, a2, pc2, l2, st2, M2⟩ | r2
      · exact hs.elim
      · obtain ⟨rfl, h2, rfl, rfl⟩ := hs
        exact ih d y pc1 l1 l2 st1 M1 r h2 h
      · exact hs.elim
      · exact hs.elim
    · rcases o with _ | ⟨pc2, l2, st2, M2⟩ | ⟨z2, a2, pc2, l2, st2, M2⟩ | r2
      · exact hs.elim
      · exact hs.elim
      · obtain ⟨rfl, rfl, rfl, h2, rfl, rfl⟩ := hs
        cases d with
        | zero => cases h
        | succ d =>
          dsimp only at h ⊢
          cases hc : am_run al n d z (0, a, [], M1) with
          | none => rw [hc] at h; cases h
          | some q =>
            rw [hc] at h
            exact ih (d + 1) y pc1 l1 l2 _ q.2 r h2 h
      · exact hs.elim
    · rcases o with _ | ⟨pc2, l2, st2, M2⟩ | ⟨z2, a2, pc2, l2, st2, M2⟩ | r2
      · exact hs.elim
      · exact hs.elim
      · exact hs.elim
      · cases (show r0 = r2 from hs)
        exact h
theorem am_E.less {d y pc : Nat} {ls0 ls st : List Value} {M : am_M} {Q : Option Value → am_M → Prop} (h : am_E d y (pc, ls0, st, M) Q) (hl : am_le ls0 ls) : am_E d y (pc, ls, st, M) Q := by
  obtain ⟨n, v, M', h1, h2⟩ := h
  exact ⟨n, v, M', am_run_le n d y pc ls0 ls st M _ hl h1, h2⟩
