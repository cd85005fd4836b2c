/-! THE STARTS: what the constructors lay, and memories that agree where it counts -/
def am_veq : Value → Value → Bool
  | .ref a, .ref b => Nat.beq a b
  | .null, .null => true
  | _, _ => false
theorem am_veq.eq {v w : Value} (h : am_veq v w = true) : v = w := by
  unfold am_veq at h
  split at h
  · exact congrArg Value.ref (Nat.eq_of_beq_eq_true h)
  · rfl
  · cases h
/-- two memories of the same cells that agree on all slots -/
def am_Ag (M M1 : am_M) : Prop := M.1 = M1.1 ∧ ∀ k, k < M.1.length → ∀ j, j < (am_nth M.1 k).2 → M.2.1 k j = M1.2.1 k j ∧ M.2.2.1 k j = M1.2.2.1 k j ∧ M.2.2.2 k j = M1.2.2.2 k j
def am_chk (M1 : am_M) (o : Option (Option Value × am_M)) : Bool := match o with
  | some (none, (t, I, J, R)) => decide (t = M1.1) && (List.range t.length).all (fun k => (List.range (am_nth t k).2).all (fun j => decide (I k j = M1.2.1 k j) && decide (J k j = M1.2.2.1 k j) && am_veq (R k j) (M1.2.2.2 k j)))
  | _ => false
theorem am_chk.ag {M1 : am_M} {o : Option (Option Value × am_M)} (h : am_chk M1 o = true) : ∃ M : am_M, o = some (none, M) ∧ am_Ag M M1 := by
  unfold am_chk at h
  split at h
  · rename_i t I J R
    refine ⟨(t, I, J, R), rfl, ?_⟩
    rw [Bool.and_eq_true] at h
    obtain ⟨h1, h2⟩ := h
    refine ⟨of_decide_eq_true h1, fun k hk j hj => ?_⟩
    have h3 := List.all_eq_true.mp (List.all_eq_true.mp h2 k (List.mem_range.mpr hk)) j (List.mem_range.mpr hj)
    simp only [Bool.and_eq_true, decide_eq_true_eq] at h3
    exact ⟨h3.1.1, h3.1.2, am_veq.eq h3.2⟩
  · cases h
theorem am_nth_get : ∀ {l : List (Nat × Nat)} {k : Nat} {t : Nat × Nat}, l[k]? = some t → am_nth l k = t
  | [], _, _, h => by cases h
  | x :: _, 0, _, h => by cases h; rfl
  | _ :: r, k + 1, t, h => by rw [List.getElem?_cons_succ] at h; exact am_nth_get (l := r) h
theorem ar_cell_ag {B : Nat} {ex : Nat → Value} {cI cJ cS : ClassId} {D : va_G} {M M1 : am_M} (h : am_Ag M M1) {k : Nat} {t : Nat × Nat} (hk : M.1[k]? = some t) {H : Heap} {a : Nat}
    (hp : va_at D vwCl (a, ar_cell B ex cI cJ cS M.2.1 M.2.2.1 M.2.2.2 k t) H) : va_at D vwCl (a, ar_cell B ex cI cJ cS M1.2.1 M1.2.2.1 M1.2.2.2 k t) H := by
  have hl : k < M.1.length := by
    rcases Nat.lt_or_ge k M.1.length with q | q
    · exact q
    · rw [List.getElem?_eq_none q] at hk; cases hk
  have hn := am_nth_get hk
  have ha := h.2 k hl
  rw [hn] at ha
  have arr : ∀ (c : ClassId) (n : Nat) (f g : Nat → Value), (∀ j, j < n → f j = g j) → arrV c n f = arrV c n g := by
    intro c n f g hfg
    unfold arrV
    congr 1
    apply Array.ext
    · simp
    · intro i h1 h2
      simp at h1 ⊢
      exact hfg i h1
  unfold ar_cell at hp ⊢
  split at hp
  · rename_i q
    rw [if_pos q]
    unfold va_at at hp ⊢
    rw [hp]
    simp only [vp_cell]
    rw [arr _ _ _ _ (fun j hj => congrArg Value.int (ha j hj).1)]
  · rename_i q
    rw [if_neg q]
    split at hp
    · rename_i q
      rw [if_pos q]
      unfold va_at at hp ⊢
      rw [hp]
      simp only [vp_cell]
      rw [arr _ _ _ _ (fun j hj => congrArg Value.long (ha j hj).2.1)]
    · rename_i q
      rw [if_neg q]
      split at hp
      · rename_i q
        rw [if_pos q]
        unfold va_at at hp ⊢
        rw [hp]
        simp only [vp_cell]
        rw [arr _ _ _ _ (fun j hj => by rw [(ha j hj).2.2])]
      · rename_i q
        rw [if_neg q]
        have e : ar_fs B ex M.2.1 M.2.2.2 k t.1 t.2 = ar_fs B ex M1.2.1 M1.2.2.2 k t.1 t.2 := by
          unfold ar_fs
          apply List.map_congr_left
          intro j hj
          have := ha j (List.mem_range.mp hj)
          rw [this.1, this.2.2]
        rw [← e]; exact hp
/-- what holds of a memory's cells holds of one that agrees -/
theorem ar_P_ag {B : Nat} {ex : Nat → Value} {cI cJ cS : ClassId} {D : va_G} {M M1 : am_M} (h : am_Ag M M1) {H : Heap} (hp : va_P D vwCl (ar_W B ex cI cJ cS M) H) : va_P D vwCl (ar_W B ex cI cJ cS M1) H := by
  intro k q hq
  unfold ar_W at hq
  rw [List.getElem?_mapIdx, ← h.1] at hq
  cases hk : M.1[k]? with
  | none => rw [hk] at hq; cases hq
  | some t =>
    rw [hk] at hq
    cases hq
    refine ar_cell_ag h hk (hp k _ ?_)
    unfold ar_W
    rw [List.getElem?_mapIdx, hk]
    rfl
/-- the ints at the start: x's -/
def IX0 (h k : Nat) : Int32 := bif Nat.beq h 0 then (bif Nat.beq k 6 then -1 else 0)
  else bif Nat.beq h 32 then (bif Nat.beq k 3 then -1 else 0)
  else bif Nat.beq h 2 || Nat.beq h 12 || Nat.beq h 22 then (bif Nat.beq k 11 then 60 else bif Nat.beq k 14 then 1 else 0)
  else bif Nat.beq h 6 || Nat.beq h 7 || Nat.beq h 8 || Nat.beq h 16 || Nat.beq h 17 || Nat.beq h 18 || Nat.beq h 26 || Nat.beq h 27 || Nat.beq h 28 then -1 else 0
/-- the words that m knows -/
def am_told : List Int32 := [115, 116, 117, 102, 102, 32, 0, 99, 101, 108, 108, 32, 0, 112, 108, 97, 110, 32, 0, 108, 97, 121, 32, 0, 115, 105, 100, 101, 32, 0, 115, 112, 114, 97, 121, 0, 104, 111, 117, 114, 115, 32, 0]
/-- and m's -/
def IM0 (h k : Nat) : Int32 := bif Nat.beq h 0 then (bif Nat.beq k 2 then 60 else bif Nat.beq k 5 then 1 else bif Nat.beq k 6 then -1 else 0)
  else bif Nat.beq h 5 || Nat.beq h 6 || Nat.beq h 7 then -1 else bif Nat.beq h 17 then am_nthI am_told k else 0
def J00 (_ _ : Nat) : Int64 := 0
def M0X : am_M := ([(5, 10)], fun _ _ => 0, fun _ _ => 0, fun _ _ => .null)
def M0M : am_M := ([(6, 39)], fun _ _ => 0, fun _ _ => 0, fun _ _ => .null)
theorem am_startX : ∃ M : am_M, am_run true 20000 5 nX7_init (0, am_loc (am_mt nX7_init).2.2.1 [.ref 0], [], M0X) = some (none, M) ∧ am_Ag M (TX, IX0, J00, RX) := by
  obtain ⟨M, h1, h2⟩ := am_chk.ag (show am_chk (TX, IX0, J00, RX) (am_run true 20000 5 nX7_init (0, am_loc (am_mt nX7_init).2.2.1 [.ref 0], [], M0X)) = true by decide +kernel)
  exact ⟨M, h1, h2⟩
theorem am_startM : ∃ M : am_M, am_run true 20000 5 nX8_init (0, am_loc (am_mt nX8_init).2.2.1 [.ref 0], [], M0M) = some (none, M) ∧ am_Ag M (TM, IM0, J00, RM) := by
  obtain ⟨M, h1, h2⟩ := am_chk.ag (show am_chk (TM, IM0, J00, RM) (am_run true 20000 5 nX8_init (0, am_loc (am_mt nX8_init).2.2.1 [.ref 0], [], M0M)) = true by decide +kernel)
  exact ⟨M, h1, h2⟩
