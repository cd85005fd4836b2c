/-! RUNS: what am_run says, the machine does -/
theorem am_set_inr {k : List Value → am_O} (hk : ∀ t r, k t ≠ some (.inr r)) : ∀ {ls : List Value} {i : Nat} {v : Value} {r}, am_set ls i v k = some (.inr r) → False := by
  intro ls
  induction ls generalizing k with
  | nil => intro i v r h; simp [am_set] at h
  | cons x q ih =>
    intro i v r h
    cases i with
    | zero => exact hk _ _ h
    | succ i =>
      have key : am_set q i v (fun t => k (x :: t)) = some (.inr r) → False := ih (fun t r => hk (x :: t) r)
      cases i with
      | zero => cases x <;> first | exact key h | (simp [am_set] at h; done)
      | succ i => cases x <;> exact key h
section NOI
variable {nx : Nat} {D : List Nat} {L : List (Int32 × Nat)} {ls st : List Value} {M : am_M} {r : (Nat × List Value × am_C) ⊕ (Option Value × am_M)}
theorem am_ldi_no (h : am_ldi nx D ls st M = some (.inr r)) : False := by
  unfold am_ldi at h; split at h
  · split at h <;> cases h
  · cases h
theorem am_ldl_no (h : am_ldl nx D ls st M = some (.inr r)) : False := by
  unfold am_ldl at h; split at h
  · split at h <;> cases h
  · cases h
theorem am_lda_no (h : am_lda nx D ls st M = some (.inr r)) : False := by
  unfold am_lda at h; split at h
  · split at h <;> cases h
  · cases h
theorem am_sti_no (h : am_sti nx D ls st M = some (.inr r)) : False := by
  unfold am_sti at h; split at h
  · split at h
    · exact am_set_inr (fun t r h => by cases h) h
    · cases h
  · cases h
theorem am_sta_no (h : am_sta nx D ls st M = some (.inr r)) : False := by
  unfold am_sta at h; split at h
  · split at h
    · exact am_set_inr (fun t r h => by cases h) h
    · exact am_set_inr (fun t r h => by cases h) h
    · cases h
  · cases h
theorem am_cst_no (h : am_cst nx L ls st M = some (.inr r)) : False := by
  unfold am_cst at h; split at h <;> cases h
theorem am_getf_no (h : am_getf nx D ls st M = some (.inr r)) : False := by
  unfold am_getf at h
  split at h
  · split at h
    rcases am_cond h with ⟨_, h2⟩ | ⟨_, h2⟩
    · split at h2
      · cases h2
      · split at h2 <;> cases h2
      · cases h2
    · obtain ⟨_, h3⟩ := am_condN h2
      split at h3 <;> cases h3
  · cases h
theorem am_putf_no (h : am_putf nx D ls st M = some (.inr r)) : False := by
  unfold am_putf at h
  split at h
  · split at h
    obtain ⟨_, h2⟩ := am_condN h
    split at h2
    · cases h2
    · cases h2
    · obtain ⟨_, h3⟩ := am_grdI h2; cases h3
    · cases h2
  · cases h
theorem am_gets_no (h : am_gets nx D ls st M = some (.inr r)) : False := by
  unfold am_gets at h; split at h <;> cases h
theorem am_ldc_no (h : am_ldc nx D L ls st M = some (.inr r)) : False := by
  unfold am_ldc at h; split at h
  · cases h
  · obtain ⟨_, h2⟩ := am_condN h; cases h2
  · cases h
theorem am_aldi_no (h : am_aldi nx ls st M = some (.inr r)) : False := by
  unfold am_aldi at h; split at h
  · split at h
    rcases am_cond h with ⟨_, h2⟩ | ⟨_, h2⟩
    · obtain ⟨_, h3⟩ := am_grdI h2; cases h3
    · obtain ⟨_, h3⟩ := am_condN h2
      obtain ⟨_, h4⟩ := am_grdI h3; cases h4
  · cases h
theorem am_aldb_no (h : am_aldb nx ls st M = some (.inr r)) : False := by
  unfold am_aldb at h; split at h
  · obtain ⟨_, h2⟩ := am_condN h
    obtain ⟨_, h3⟩ := am_grdI h2; cases h3
  · cases h
theorem am_aldl_no (h : am_aldl nx ls st M = some (.inr r)) : False := by
  unfold am_aldl at h; split at h
  · split at h
    obtain ⟨_, h2⟩ := am_condN h
    obtain ⟨_, h3⟩ := am_grdI h2; cases h3
  · cases h
theorem am_alda_no (h : am_alda nx ls st M = some (.inr r)) : False := by
  unfold am_alda at h; split at h
  · split at h
    obtain ⟨_, h2⟩ := am_condN h
    obtain ⟨_, h3⟩ := am_grdI h2
    split at h3
    · obtain ⟨_, h4⟩ := am_condN h3; cases h4
    · cases h3
    · cases h3
  · cases h
theorem am_asti_no (h : am_asti nx ls st M = some (.inr r)) : False := by
  unfold am_asti at h; split at h
  · split at h
    obtain ⟨_, h2⟩ := am_condN h
    obtain ⟨_, h3⟩ := am_grdI h2; cases h3
  · cases h
theorem am_astl_no (h : am_astl nx ls st M = some (.inr r)) : False := by
  unfold am_astl at h; split at h
  · split at h
    obtain ⟨_, h2⟩ := am_condN h
    obtain ⟨_, h3⟩ := am_grdI h2; cases h3
  · cases h
theorem am_asta_no (h : am_asta nx ls st M = some (.inr r)) : False := by
  unfold am_asta at h; split at h
  · split at h
    obtain ⟨_, h2⟩ := am_condN h
    obtain ⟨_, h3⟩ := am_grdI h2; cases h3
  · cases h
theorem am_alen_no (h : am_alen nx ls st M = some (.inr r)) : False := by
  unfold am_alen at h; split at h
  · split at h
    rcases am_cond h with ⟨_, h2⟩ | ⟨_, h2⟩
    · cases h2
    · rcases am_cond h2 with ⟨_, h3⟩ | ⟨_, h3⟩
      · cases h3
      · rcases am_cond h3 with ⟨_, h4⟩ | ⟨_, h4⟩
        · cases h4
        · obtain ⟨_, h5⟩ := am_condN h4; cases h5
  · cases h
theorem am_new_no (h : am_new nx D ls st M = some (.inr r)) : False := by
  unfold am_new at h; split at h
  · obtain ⟨_, h2⟩ := am_condN h; cases h2
  · cases h
theorem am_newa_no (h : am_newa nx D ls st M = some (.inr r)) : False := by
  unfold am_newa at h; split at h
  · obtain ⟨_, h2⟩ := am_condN h
    obtain ⟨_, h3⟩ := am_grdI h2; cases h3
  · cases h
theorem am_go_no (h : am_go nx ls st M = some (.inr r)) : False := by cases h
theorem am_brk_no {p : Prop} [Decidable p] {c1 c2 : am_C} (h : am_brk p c1 c2 = some (.inr r)) : False := by
  unfold am_brk at h; split at h <;> cases h
theorem am_grd_no {p : Prop} [Decidable p] (h : am_grd p (am_go nx ls st M) = some (.inr r)) : False := by
  obtain ⟨_, h2⟩ := am_grdI h; cases h2
theorem am_swo_no {x : Int32} {d : Nat} (h : am_swo x L d ls st M = some (.inr r)) : False := by cases h
theorem am_inc_no {j : Nat} {v : Value} (h : am_set ls j v (fun t => am_go nx t st M) = some (.inr r)) : False := am_set_inr (fun t r h => by cases h) h
end NOI
theorem am_sem_inr {al : Bool} {i : Instr} {nx : Nat} {D : List Nat} {L : List (Int32 × Nat)} {ls st : List Value} {M : am_M} {r : (Nat × List Value × am_C) ⊕ (Option Value × am_M)} (h : am_sem al i nx D L ls st M = some (.inr r)) :
    ((∃ x, i = .invokevirtual x ∨ i = .invokespecial x ∨ i = .invokestatic x) ∧ am_inv nx D ls st M = some (.inr r)) ∨ (i = .ireturn ∧ am_ret D st M = some (.inr r)) ∨ (i = .lreturn ∧ ∃ v, st = [.long v] ∧ r = .inr (some (.long v), M)) ∨ (i = .areturn ∧ ∃ v, (v = .null ∨ ∃ x : Nat, v = .ref x) ∧ st = [v] ∧ r = .inr (some v, M)) ∨ (i = .return_ ∧ st = [] ∧ r = .inr (none, M)) := by
  unfold am_sem at h
  split at h
  all_goals first
    | exact Or.inl ⟨⟨_, Or.inl rfl⟩, h⟩
    | exact Or.inl ⟨⟨_, Or.inr (Or.inl rfl)⟩, h⟩
    | exact Or.inl ⟨⟨_, Or.inr (Or.inr rfl)⟩, h⟩
    | exact Or.inr (Or.inl ⟨rfl, h⟩)
    | exact (am_ldi_no h).elim
    | exact (am_ldl_no h).elim
    | exact (am_lda_no h).elim
    | exact (am_sti_no h).elim
    | exact (am_sta_no h).elim
    | exact (am_cst_no h).elim
    | exact (am_getf_no h).elim
    | exact (am_putf_no h).elim
    | exact (am_gets_no h).elim
    | exact (am_ldc_no h).elim
    | exact (am_aldi_no h).elim
    | exact (am_aldb_no h).elim
    | exact (am_aldl_no h).elim
    | exact (am_alda_no h).elim
    | exact (am_asti_no h).elim
    | exact (am_astl_no h).elim
    | exact (am_asta_no h).elim
    | exact (am_alen_no h).elim
    | (exfalso; cases al with
       | false => cases h
       | true => first | exact am_new_no h | exact am_newa_no h)
    | exact (am_go_no h).elim
    | (exfalso; split at h <;> first | exact am_go_no h | exact am_brk_no h | exact am_grd_no h | exact am_swo_no h | (cases h; done) | (split at h <;> first | exact am_inc_no h | (cases h; done)))
    | (split at h
       · cases h; exact Or.inr (Or.inr (Or.inl ⟨rfl, _, rfl, rfl⟩))
       · cases h)
    | (split at h
       · cases h; exact Or.inr (Or.inr (Or.inr (Or.inl ⟨rfl, _, Or.inr ⟨_, rfl⟩, rfl, rfl⟩)))
       · cases h; exact Or.inr (Or.inr (Or.inr (Or.inl ⟨rfl, _, Or.inl rfl, rfl, rfl⟩)))
       · cases h)
    | (split at h
       · cases h; exact Or.inr (Or.inr (Or.inr (Or.inr ⟨rfl, rfl, rfl⟩)))
       · cases h)
    | cases h
