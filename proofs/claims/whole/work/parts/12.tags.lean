/-! WHAT A STEP DOES TO THE LIST OF CELLS; what calls and what returns -/
section TGS
variable {nx : Nat} {D : List Nat} {L : List (Int32 × Nat)} {ls st : List Value} {M : am_M} {c' : am_C}
theorem am_ldi_tg (h : am_ldi nx D ls st M = some (.inl c')) : c'.2.2.2.1 = M.1 := by
  unfold am_ldi at h; split at h
  · split at h <;> first | (cases h; rfl) | (cases h; done)
  · first | (cases h; rfl) | (cases h; done)
theorem am_ldl_tg (h : am_ldl nx D ls st M = some (.inl c')) : c'.2.2.2.1 = M.1 := by
  unfold am_ldl at h; split at h
  · split at h <;> first | (cases h; rfl) | (cases h; done)
  · first | (cases h; rfl) | (cases h; done)
theorem am_lda_tg (h : am_lda nx D ls st M = some (.inl c')) : c'.2.2.2.1 = M.1 := by
  unfold am_lda at h; split at h
  · split at h <;> first | (cases h; rfl) | (cases h; done)
  · first | (cases h; rfl) | (cases h; done)
theorem am_sti_tg (h : am_sti nx D ls st M = some (.inl c')) : c'.2.2.2.1 = M.1 := by
  unfold am_sti at h; split at h
  · split at h
    · (obtain ⟨_, h2, _⟩ := am_set_eq h; first | (cases h2; rfl) | (cases h2; done); rfl)
    · first | (cases h; rfl) | (cases h; done)
  · first | (cases h; rfl) | (cases h; done)
theorem am_sta_tg (h : am_sta nx D ls st M = some (.inl c')) : c'.2.2.2.1 = M.1 := by
  unfold am_sta at h; split at h
  · split at h
    · (obtain ⟨_, h2, _⟩ := am_set_eq h; first | (cases h2; rfl) | (cases h2; done); rfl)
    · (obtain ⟨_, h2, _⟩ := am_set_eq h; first | (cases h2; rfl) | (cases h2; done); rfl)
    · first | (cases h; rfl) | (cases h; done)
  · first | (cases h; rfl) | (cases h; done)
theorem am_cst_tg (h : am_cst nx L ls st M = some (.inl c')) : c'.2.2.2.1 = M.1 := by
  unfold am_cst at h; split at h <;> first | (cases h; rfl) | (cases h; done)
theorem am_getf_tg (h : am_getf nx D ls st M = some (.inl c')) : c'.2.2.2.1 = M.1 := by
  unfold am_getf at h
  split at h
  · split at h
    rcases am_cond h with ⟨_, h2⟩ | ⟨_, h2⟩
    · split at h2
      · first | (cases h2; rfl) | (cases h2; done)
      · split at h2 <;> first | (cases h2; rfl) | (cases h2; done)
      · first | (cases h2; rfl) | (cases h2; done)
    · obtain ⟨_, h3⟩ := am_condN h2
      split at h3 <;> first | (cases h3; rfl) | (cases h3; done)
  · first | (cases h; rfl) | (cases h; done)
theorem am_putf_tg (h : am_putf nx D ls st M = some (.inl c')) : c'.2.2.2.1 = M.1 := by
  unfold am_putf at h
  split at h
  · split at h
    obtain ⟨_, h2⟩ := am_condN h
    split at h2
    · first | (cases h2; rfl) | (cases h2; done)
    · first | (cases h2; rfl) | (cases h2; done)
    · obtain ⟨_, h3⟩ := am_grdI h2; first | (cases h3; rfl) | (cases h3; done)
    · first | (cases h2; rfl) | (cases h2; done)
  · first | (cases h; rfl) | (cases h; done)
theorem am_gets_tg (h : am_gets nx D ls st M = some (.inl c')) : c'.2.2.2.1 = M.1 := by
  unfold am_gets at h; split at h <;> first | (cases h; rfl) | (cases h; done)
theorem am_ldc_tg (h : am_ldc nx D L ls st M = some (.inl c')) : c'.2.2.2.1 = M.1 := by
  unfold am_ldc at h; split at h
  · first | (cases h; rfl) | (cases h; done)
  · obtain ⟨_, h2⟩ := am_condN h; first | (cases h2; rfl) | (cases h2; done)
  · first | (cases h; rfl) | (cases h; done)
theorem am_aldi_tg (h : am_aldi nx ls st M = some (.inl c')) : c'.2.2.2.1 = M.1 := by
  unfold am_aldi at h; split at h
  · split at h
    rcases am_cond h with ⟨_, h2⟩ | ⟨_, h2⟩
    · obtain ⟨_, h3⟩ := am_grdI h2; first | (cases h3; rfl) | (cases h3; done)
    · obtain ⟨_, h3⟩ := am_condN h2
      obtain ⟨_, h4⟩ := am_grdI h3; first | (cases h4; rfl) | (cases h4; done)
  · first | (cases h; rfl) | (cases h; done)
theorem am_aldb_tg (h : am_aldb nx ls st M = some (.inl c')) : c'.2.2.2.1 = M.1 := by
  unfold am_aldb at h; split at h
  · obtain ⟨_, h2⟩ := am_condN h
    obtain ⟨_, h3⟩ := am_grdI h2; first | (cases h3; rfl) | (cases h3; done)
  · first | (cases h; rfl) | (cases h; done)
theorem am_aldl_tg (h : am_aldl nx ls st M = some (.inl c')) : c'.2.2.2.1 = M.1 := by
  unfold am_aldl at h; split at h
  · split at h
    obtain ⟨_, h2⟩ := am_condN h
    obtain ⟨_, h3⟩ := am_grdI h2; first | (cases h3; rfl) | (cases h3; done)
  · first | (cases h; rfl) | (cases h; done)
theorem am_alda_tg (h : am_alda nx ls st M = some (.inl c')) : c'.2.2.2.1 = M.1 := by
  unfold am_alda at h; split at h
  · split at h
    obtain ⟨_, h2⟩ := am_condN h
    obtain ⟨_, h3⟩ := am_grdI h2
    split at h3
    · obtain ⟨_, h4⟩ := am_condN h3; first | (cases h4; rfl) | (cases h4; done)
    · first | (cases h3; rfl) | (cases h3; done)
    · first | (cases h3; rfl) | (cases h3; done)
  · first | (cases h; rfl) | (cases h; done)
theorem am_asti_tg (h : am_asti nx ls st M = some (.inl c')) : c'.2.2.2.1 = M.1 := by
  unfold am_asti at h; split at h
  · split at h
    obtain ⟨_, h2⟩ := am_condN h
    obtain ⟨_, h3⟩ := am_grdI h2; first | (cases h3; rfl) | (cases h3; done)
  · first | (cases h; rfl) | (cases h; done)
theorem am_astl_tg (h : am_astl nx ls st M = some (.inl c')) : c'.2.2.2.1 = M.1 := by
  unfold am_astl at h; split at h
  · split at h
    obtain ⟨_, h2⟩ := am_condN h
    obtain ⟨_, h3⟩ := am_grdI h2; first | (cases h3; rfl) | (cases h3; done)
  · first | (cases h; rfl) | (cases h; done)
theorem am_asta_tg (h : am_asta nx ls st M = some (.inl c')) : c'.2.2.2.1 = M.1 := by
  unfold am_asta at h; split at h
  · split at h
    obtain ⟨_, h2⟩ := am_condN h
    obtain ⟨_, h3⟩ := am_grdI h2; first | (cases h3; rfl) | (cases h3; done)
  · first | (cases h; rfl) | (cases h; done)
theorem am_alen_tg (h : am_alen nx ls st M = some (.inl c')) : c'.2.2.2.1 = M.1 := by
  unfold am_alen at h; split at h
  · split at h
    rcases am_cond h with ⟨_, h2⟩ | ⟨_, h2⟩
    · first | (cases h2; rfl) | (cases h2; done)
    · rcases am_cond h2 with ⟨_, h3⟩ | ⟨_, h3⟩
      · first | (cases h3; rfl) | (cases h3; done)
      · rcases am_cond h3 with ⟨_, h4⟩ | ⟨_, h4⟩
        · first | (cases h4; rfl) | (cases h4; done)
        · obtain ⟨_, h5⟩ := am_condN h4; first | (cases h5; rfl) | (cases h5; done)
  · first | (cases h; rfl) | (cases h; done)
theorem am_new_tg (h : am_new nx D ls st M = some (.inl c')) : M.1.length < 900 ∧ ∃ x, c'.2.2.2.1 = M.1 ++ [x] := by
  unfold am_new at h; split at h
  · obtain ⟨hb, h2⟩ := am_condN h
    rw [Bool.and_eq_true] at hb
    have h9 := Nat.le_of_ble_eq_true hb.1
    rw [am_cnt_len] at h9
    cases h2; exact ⟨h9, _, am_app_eq _ _⟩
  · cases h
theorem am_newa_tg (h : am_newa nx D ls st M = some (.inl c')) : M.1.length < 900 ∧ ∃ x, c'.2.2.2.1 = M.1 ++ [x] := by
  unfold am_newa at h; split at h
  · obtain ⟨hb, h2⟩ := am_condN h
    rw [Bool.and_eq_true] at hb
    have h9 := Nat.le_of_ble_eq_true hb.1
    rw [am_cnt_len] at h9
    obtain ⟨_, h3⟩ := am_grdI h2; cases h3; exact ⟨h9, _, am_app_eq _ _⟩
  · cases h
theorem am_go_tg (h : am_go nx ls st M = some (.inl c')) : c'.2.2.2.1 = M.1 := by first | (cases h; rfl) | (cases h; done)
theorem am_brk_tg {p : Prop} [Decidable p] {t : Nat} (h : am_brk p (t, ls, st, M) (nx, ls, st, M) = some (.inl c')) : c'.2.2.2.1 = M.1 := by
  unfold am_brk at h; split at h <;> first | (cases h; rfl) | (cases h; done)
theorem am_grd_tg {p : Prop} [Decidable p] (h : am_grd p (am_go nx ls st M) = some (.inl c')) : c'.2.2.2.1 = M.1 := by
  obtain ⟨_, h2⟩ := am_grdI h; first | (cases h2; rfl) | (cases h2; done)
theorem am_swo_tg {x : Int32} {d : Nat} (h : am_swo x L d ls st M = some (.inl c')) : c'.2.2.2.1 = M.1 := by first | (cases h; rfl) | (cases h; done)
theorem am_inc_tg {j : Nat} {v : Value} (h : am_set ls j v (fun t => am_go nx t st M) = some (.inl c')) : c'.2.2.2.1 = M.1 := by
  obtain ⟨_, h2, _⟩ := am_set_eq h
  cases h2; rfl
end TGS
theorem am_copy_tg {nx : Nat} {ls st : List Value} {M : am_M} {c' : am_C} (h : am_copy nx ls st M = some (.inl c')) : c'.2.2.2.1 = M.1 := by
  unfold am_copy at h; split at h
  · obtain ⟨_, h2⟩ := am_condN h
    split at h2
    rcases am_cond h2 with ⟨_, h3⟩ | ⟨_, h3⟩
    · obtain ⟨_, h4⟩ := am_grdI h3; cases h4; rfl
    · obtain ⟨_, h4⟩ := am_condN h3
      obtain ⟨_, h5⟩ := am_grdI h4; cases h5; rfl
  · cases h
theorem am_inv_tg {nx : Nat} {D : List Nat} {ls st : List Value} {M : am_M} {c' : am_C} (h : am_inv nx D ls st M = some (.inl c')) : c'.2.2.2.1 = M.1 := by
  obtain ⟨tg, I, J, R⟩ := M
  obtain ⟨z, kd, na, mx, ci, t, rfl, hc⟩ := am_inv_inv h
  rcases hc with ⟨_, h2⟩ | ⟨_, xs, rest, _, _, _, _, h2⟩
  · exact am_copy_tg h2
  · rcases am_inv2_inl h2 with ⟨_, a, _, _, rfl⟩ | ⟨a, b, _, ⟨_, rfl⟩ | ⟨_, rfl⟩⟩ <;> rfl
theorem am_ret_tg {D : List Nat} {st : List Value} {M : am_M} {c' : am_C} (h : am_ret D st M = some (.inl c')) : c'.2.2.2.1 = M.1 := by
  unfold am_ret at h
  split at h
  · cases h
  · obtain ⟨_, h2⟩ := am_grdI h; cases h2
  · obtain ⟨_, h2⟩ := am_grdI h; cases h2
  · obtain ⟨_, h2⟩ := am_grdI h; cases h2
  · cases h
theorem am_sem_tags {al : Bool} {i : Instr} {nx : Nat} {D : List Nat} {L : List (Int32 × Nat)} {ls st : List Value} {M : am_M} {c' : am_C} (h : am_sem al i nx D L ls st M = some (.inl c')) : c'.2.2.2.1 = M.1 ∨ (al = true ∧ M.1.length < 900 ∧ ∃ x, c'.2.2.2.1 = M.1 ++ [x]) := by
  unfold am_sem at h
  split at h
  all_goals first
    | exact Or.inl (am_ldi_tg h)
    | exact Or.inl (am_ldl_tg h)
    | exact Or.inl (am_lda_tg h)
    | exact Or.inl (am_sti_tg h)
    | exact Or.inl (am_sta_tg h)
    | exact Or.inl (am_cst_tg h)
    | exact Or.inl (am_getf_tg h)
    | exact Or.inl (am_putf_tg h)
    | exact Or.inl (am_gets_tg h)
    | exact Or.inl (am_ldc_tg h)
    | exact Or.inl (am_aldi_tg h)
    | exact Or.inl (am_aldb_tg h)
    | exact Or.inl (am_aldl_tg h)
    | exact Or.inl (am_alda_tg h)
    | exact Or.inl (am_asti_tg h)
    | exact Or.inl (am_astl_tg h)
    | exact Or.inl (am_asta_tg h)
    | exact Or.inl (am_alen_tg h)
    | exact Or.inl (am_inv_tg h)
    | exact Or.inl (am_ret_tg h)
    | exact Or.inl (am_go_tg h)
    | (cases al with
       | false => exact (nomatch h)
       | true => first | exact Or.inr ⟨rfl, am_new_tg h⟩ | exact Or.inr ⟨rfl, am_newa_tg h⟩)
    | (refine Or.inl ?_; split at h <;> first | exact am_go_tg h | exact am_brk_tg h | exact am_grd_tg h | exact am_swo_tg h | (cases h; done) | (split at h <;> first | exact am_inc_tg h | (cases h; done)))
    | (cases h; done)
theorem am_step_tags {al : Bool} {y : Nat} {c c' : am_C} (h : am_step al y c = some (.inl c')) : c'.2.2.2.1 = c.2.2.2.1 ∨ (al = true ∧ c.2.2.2.1.length < 900 ∧ ∃ x, c'.2.2.2.1 = c.2.2.2.1 ++ [x]) := by
  obtain ⟨pc, ls, st, M⟩ := c
  simp only [am_step] at h
  split at h
  · exact am_sem_tags h
  · cases h
theorem am_inv2_inr {kd z mx ci nx : Nat} {ls as rest : List Value} {M : am_M} {r : (Nat × List Value × am_C) ⊕ (Option Value × am_M)} (h : am_inv2 kd z mx ci nx ls as rest M = some (.inr r)) : r = .inl (z, am_loc mx as, (nx, ls, rest, M)) ∧ (kd = 0 ∨ ((kd = 1 ∨ kd = 2) ∧ ∃ (a : Nat) (as' : List Value), as = .ref a :: as' ∧ (am_nth M.1 a).1 = ci) ∨ (kd = 7 ∧ ∃ (a : Nat) (as' : List Value), as = .ref a :: as' ∧ 1000 ≤ a ∧ a ≤ 1006)) := by
  unfold am_inv2 at h
  split at h
  · cases h; exact ⟨rfl, Or.inl rfl⟩
  · obtain ⟨hp, h2⟩ := am_grdI h; cases h2; exact ⟨rfl, Or.inr (Or.inl ⟨Or.inl rfl, _, _, rfl, hp⟩)⟩
  · obtain ⟨hp, h2⟩ := am_grdI h; cases h2; exact ⟨rfl, Or.inr (Or.inl ⟨Or.inr rfl, _, _, rfl, hp⟩)⟩
  · cases h
  · cases h
  · obtain ⟨_, h2⟩ := am_condN h; cases h2
  · obtain ⟨hp, h2⟩ := am_grdI h; cases h2; exact ⟨rfl, Or.inr (Or.inr ⟨rfl, _, _, rfl, hp.1, hp.2⟩)⟩
  · cases h
theorem am_copy_no {nx : Nat} {ls st : List Value} {M : am_M} {r : (Nat × List Value × am_C) ⊕ (Option Value × am_M)} (h : am_copy nx ls st M = some (.inr r)) : False := by
  unfold am_copy at h; split at h
  · obtain ⟨_, h2⟩ := am_condN h
    split at h2
    rcases am_cond h2 with ⟨_, h3⟩ | ⟨_, h3⟩
    · obtain ⟨_, h4⟩ := am_grdI h3; cases h4
    · obtain ⟨_, h4⟩ := am_condN h3
      obtain ⟨_, h5⟩ := am_grdI h4; cases h5
  · cases h
theorem am_step_inr {al : Bool} {y pc : Nat} {ls st : List Value} {M : am_M} {r : (Nat × List Value × am_C) ⊕ (Option Value × am_M)} (h : am_step al y (pc, ls, st, M) = some (.inr r)) :
    ∃ i nx fl D L, am_find (am_code y) pc = some (pc, i, nx, fl, D, L) ∧ (((∃ x, i = .invokevirtual x ∨ i = .invokespecial x ∨ i = .invokestatic x) ∧ ∃ z kd n mx ci t xs rest, D = z :: kd :: n :: mx :: ci :: t ∧ ¬ kd = 6 ∧ ¬ kd = 3 ∧ ¬ kd = 8 ∧ ¬ kd = 9 ∧ st = xs ++ rest ∧ xs.length = n ∧ am_ws rest ≤ 8 ∧ am_ws xs.reverse ≤ mx ∧ r = .inl (z, am_loc mx xs.reverse, (nx, ls, rest, M)) ∧ (kd = 0 ∨ ((kd = 1 ∨ kd = 2) ∧ ∃ (a : Nat) (as' : List Value), xs.reverse = .ref a :: as' ∧ (am_nth M.1 a).1 = ci) ∨ (kd = 7 ∧ ∃ (a : Nat) (as' : List Value), xs.reverse = .ref a :: as' ∧ 1000 ≤ a ∧ a ≤ 1006))) ∨
      (∃ v, r = .inr (v, M) ∧ ((i = .ireturn ∧ ∃ w : Int32, st = [.int w] ∧ v = some (.int w) ∧ (D = [0] ∨ D = [1] ∧ (w = 0 ∨ w = 1) ∨ D = [2] ∧ (w.toUInt32 % 65536).toInt32 = w ∨ D = [3] ∧ w = 0)) ∨ (i = .lreturn ∧ ∃ w : Int64, st = [.long w] ∧ v = some (.long w)) ∨ (i = .areturn ∧ ∃ w, (w = .null ∨ ∃ x : Nat, w = .ref x) ∧ st = [w] ∧ v = some w) ∨ (i = .return_ ∧ st = [] ∧ v = none)))) := by
  simp only [am_step] at h
  split at h
  · rename_i e0 i nx fl D L hf
    obtain rfl : e0 = pc := (am_find_mem hf).2
    refine ⟨i, nx, fl, D, L, hf, ?_⟩
    rcases am_sem_inr h with ⟨hi, h2⟩ | ⟨rfl, h2⟩ | ⟨rfl, w, rfl, rfl⟩ | ⟨rfl, w, hw, rfl, rfl⟩ | ⟨rfl, rfl, rfl⟩
    · obtain ⟨z, kd, n, mx, ci, t, rfl, hc⟩ := am_inv_inv h2
      rcases hc with ⟨_, h3⟩ | ⟨hk6, xs, rest, h4, h5, h6, h7, h3⟩
      · exact (am_copy_no h3).elim
      · obtain ⟨h8, h9⟩ := am_inv2_inr h3
        have hk : ¬ kd = 3 ∧ ¬ kd = 8 ∧ ¬ kd = 9 := by rcases h9 with q | ⟨q | q, _⟩ | ⟨q, _⟩ <;> omega
        refine Or.inl ⟨hi, z, kd, n, mx, ci, t, xs, rest, rfl, hk6, hk.1, hk.2.1, hk.2.2, h4, h5, h6, ?_, h8, h9⟩
        rcases h7 with q | q | q | q
        · exact q
        · exact absurd q hk.1
        · exact absurd q hk.2.1
        · exact absurd q hk.2.2
    · unfold am_ret at h2
      split at h2
      · cases h2; exact Or.inr ⟨_, rfl, Or.inl ⟨rfl, _, rfl, rfl, Or.inl rfl⟩⟩
      · obtain ⟨hp, h3⟩ := am_grdI h2; cases h3; exact Or.inr ⟨_, rfl, Or.inl ⟨rfl, _, rfl, rfl, Or.inr (Or.inl ⟨rfl, hp⟩)⟩⟩
      · obtain ⟨hp, h3⟩ := am_grdI h2; cases h3; exact Or.inr ⟨_, rfl, Or.inl ⟨rfl, _, rfl, rfl, Or.inr (Or.inr (Or.inl ⟨rfl, hp⟩))⟩⟩
      · obtain ⟨hp, h3⟩ := am_grdI h2; cases h3; exact Or.inr ⟨_, rfl, Or.inl ⟨rfl, _, rfl, rfl, Or.inr (Or.inr (Or.inr ⟨rfl, hp⟩))⟩⟩
      · cases h2
    · exact Or.inr ⟨_, rfl, Or.inr (Or.inl ⟨rfl, w, rfl, rfl⟩)⟩
    · exact Or.inr ⟨_, rfl, Or.inr (Or.inr (Or.inl ⟨rfl, w, hw, rfl, rfl⟩))⟩
    · exact Or.inr ⟨_, rfl, Or.inr (Or.inr (Or.inr ⟨rfl, rfl, rfl⟩))⟩
  · cases h
theorem am_run_tags {al : Bool} : ∀ (n d y : Nat) (c : am_C) (v : Option Value) (M' : am_M), am_run al n d y c = some (v, M') → c.2.2.2.1.length ≤ M'.1.length ∧ ar_sum c.2.2.2.1 ≤ ar_sum M'.1 ∧ (al = false → M'.1 = c.2.2.2.1) ∧ (c.2.2.2.1.length ≤ 900 → M'.1.length ≤ 900) := by
  intro n
  induction n with
  | zero => intro d y c v M' h; cases h
  | succ n ih =>
    intro d y c v M' h
    obtain ⟨pc, ls, st, M⟩ := c
    rw [am_run] at h
    cases hs : am_step al y (pc, ls, st, M) with
    | none => rw [hs] at h; cases h
    | some o =>
      rw [hs] at h
      rcases o with c' | r
      · obtain ⟨h1, h2, h3⟩ := ih d y c' v M' h
        rcases am_step_tags hs with q | ⟨q, q9, x, q2⟩
        · rw [q] at h1 h2 h3
          exact ⟨h1, h2, h3⟩
        · rw [q2] at h1 h2 h3
          refine ⟨by simp at h1 ⊢; omega, by simp [ar_sum] at h2 ⊢; omega, (fun q3 => by rw [q] at q3; cases q3), fun _ => h3.2 (by simp at q9 ⊢; omega)⟩
      · obtain ⟨i, nx, fl, D, L, -, hc | hc⟩ := am_step_inr hs
        · obtain ⟨-, z, kd, na, mx, ci, t, xs, rest, -, -, -, -, -, -, -, -, -, rfl, -⟩ := hc
          cases d with
          | zero => cases h
          | succ d =>
            dsimp only at h
            cases hr : am_run al n d z (0, am_loc mx xs.reverse, [], M) with
            | none => rw [hr] at h; cases h
            | some q =>
              obtain ⟨v1, M1⟩ := q
              rw [hr] at h
              obtain ⟨h1, h2, h3⟩ := ih d z _ v1 M1 hr
              obtain ⟨h4, h5, h6⟩ := ih (d + 1) y _ v M' h
              exact ⟨Nat.le_trans h1 h4, Nat.le_trans h2 h5, fun q => (h6.1 q).trans (h3.1 q), fun q => h6.2 (h3.2 q)⟩
        · obtain ⟨w, rfl, -⟩ := hc
          cases h
          exact ⟨Nat.le_refl _, Nat.le_refl _, fun _ => rfl, fun q => q⟩
