/-! THE PLAIN STEPS, all of them -/
set_option maxHeartbeats 4000000 in
set_option maxRecDepth 100000 in
theorem ar_step {p : Program} {l : Launch} {e : Env} {Rm : Room} {s : State} {m : MethodId} {args : Array Value} {below : List Frame} {meth : Method} {c : Code} {Q : State → Prop} {al : Bool} {B : Nat} {ex : Nat → Value} {cI cJ cS : ClassId} {dC : Nat → ClassId} {dI : Nat → Nat → Nat} {A : Nat → Prop} {y : Nat} {H : Heap} {locs : List Loc} {lsl : Array Slot} {cells slots pc pc' : Nat} {ls ls' st st' : List Value} {M M' : am_M}
    (C : ar_Cx p s m args meth c A ex cI cJ cS dC dI y) (hA0 : ∀ q, s.heap.size ≤ q → A q) (hy : y < am_N) (hs : am_step al y (pc, ls, st, M) = some (.inl (pc', ls', st', M'))) (hr : ar_St s dC dI cI cJ cS B ex A al (am_mt y).2.2.1 cells M ls H locs lsl)
    (hroom : cells + (M'.1.length - M.1.length) ≤ Rm.cells ∧ slots + (ar_sum M'.1 - ar_sum M.1) ≤ Rm.slots) (hfr : 1 ≤ Rm.frames ∧ 64 ≤ Rm.locals)
    (kk : ∀ (H1 : Heap) (locs1 : List Loc) (lsl1 : Array Slot), ar_St s dC dI cI cJ cS B ex A al (am_mt y).2.2.1 (cells + (M'.1.length - M.1.length)) M' ls' H1 locs1 lsl1 → W p l e Rm s m args below meth c H1 locs1 (cells + (M'.1.length - M.1.length)) (slots + (ar_sum M'.1 - ar_sum M.1)) Q (F0 m pc' lsl1 (st'.map (ar_v B ex)))) :
    W p l e Rm s m args below meth c H locs cells slots Q (F0 m pc lsl (st.map (ar_v B ex))) := by
  obtain ⟨tg, I, J, R⟩ := M
  obtain ⟨hx, hb, hml, hrt, hts, hown, hlocks, hnm, hK, hE⟩ := C
  obtain ⟨hP, hS, hA, h9, hz, hn, hl⟩ := hr
  have hex := hE.2.2.2.2.2.1
  have hD : va_D A (ar_W B ex cI cJ cS (tg, I, J, R)) := ar_W_D hA
  have hS' : va_S A H H locs := ⟨Nat.le_refl _, fun _ _ _ => rfl, hS.2.2⟩
  have hls : lsl.size = (am_mt y).2.2.1 := hl.1
  simp only [am_step] at hs
  cases hf : am_find (am_code y) pc with
  | none => rw [hf] at hs; cases hs
  | some en =>
  obtain ⟨e0, i, nx, fl, D, L⟩ := en
  have he0 : e0 = pc := (am_find_mem hf).2
  subst he0
  rw [hf] at hs
  dsimp only at hs
  obtain ⟨n, hdg, hnx, hck⟩ := ar_dec hy hf
  clear hf
  have kS : M' = (tg, I, J, R) → ls' = ls → W p l e Rm s m args below meth c H locs cells slots Q (F0 m pc' lsl (st'.map (ar_v B ex))) := by
    rintro rfl rfl
    simpa using kk H locs lsl ⟨hP, hS, hA, h9, by simpa using hz, hn, hl⟩
  have kL : ∀ lsl1, M' = (tg, I, J, R) → ls'.length = ls.length → lv_has lsl1 (am_mt y).2.2.1 (ar_lv B ex ls') → W p l e Rm s m args below meth c H locs cells slots Q (F0 m pc' lsl1 (st'.map (ar_v B ex))) := by
    rintro lsl1 rfl h1 h2
    simpa using kk H locs lsl1 ⟨hP, hS, hA, h9, by simpa using hz, by rw [h1]; exact hn, h2⟩
  have kM : ∀ (I' : Nat → Nat → Int32) (J' : Nat → Nat → Int64) (R' : Nat → Nat → Value) (H1 : Heap) (locs1 : List Loc), M' = (tg, I', J', R') → ls' = ls → va_P (dC, dI) vwCl (ar_W B ex cI cJ cS (tg, I', J', R')) H1 → va_S A H H1 locs1 → W p l e Rm s m args below meth c H1 locs1 cells slots Q (F0 m pc' lsl (st'.map (ar_v B ex))) := by
    rintro I' J' R' H1 locs1 rfl rfl h1 h2
    simpa using kk H1 locs1 lsl ⟨h1, hS.tr h2, hA, h9, by simpa using fun q => ⟨Nat.le_trans (hz q).1 h2.1, (hz q).2⟩, hn, hl⟩
  have kG : ∀ (x : Nat × Nat) (H1 : Heap), al = true → H.size = B + tg.length → M' = (am_app tg x, am_rowI I (am_cnt tg), am_rowJ J (am_cnt tg), am_rowR R (am_cnt tg)) → ls' = ls → tg.length < 900 → va_P (dC, dI) vwCl (ar_W B ex cI cJ cS (tg ++ [x], am_rowI I tg.length, am_rowJ J tg.length, am_rowR R tg.length)) H1 → H1.size = H.size + 1 → (∀ q : Nat, q < H.size → H1[q]? = H[q]?) → W p l e Rm s m args below meth c H1 locs (cells + 1) (slots + x.2) Q (F0 m pc' lsl (st'.map (ar_v B ex))) := by
    rintro x H1 hal hsz rfl rfl h900 h1 h2 h3
    simp only [am_app_eq, am_cnt_len] at kk
    have e1 : (tg ++ [x]).length - tg.length = 1 := by simp
    have e2 : ar_sum (tg ++ [x]) - ar_sum tg = x.2 := by simp [ar_sum]
    have k := kk H1 locs lsl
    rw [e1, e2] at k
    refine k ⟨h1, hS.tr ⟨by omega, fun q hq _ => h3 q hq, hS.2.2⟩, fun j hj => ?_, by simp; omega, fun _ => ?_, hn, hl⟩
    · rcases Nat.lt_or_ge j tg.length with q | q
      · exact hA j q
      · have hj' : j = tg.length := by simp at hj; omega
        rw [hj', ← hsz]
        exact hA0 _ hS.1
    · have hz1 := (hz hal).1
      have hz2 := (hz hal).2
      change B + tg.length ≤ _ at hz1
      change B + tg.length = _ at hz2
      simp
      omega
  unfold am_sem at hs
  split at hs
  · obtain ⟨j, x, rfl, hg, hc⟩ := am_ldi_inv hs
    simp only [ar_chk, decide_eq_true_eq, List.cons.injEq, and_true] at hck
    obtain ⟨rfl, rfl⟩ := hck
    obtain rfl : n = 2 := by omega
    cases hc
    exact lv_iload hx hb hdg (ar_lv_in hl hg (fun _ h => by cases h)) (kS rfl rfl)
  · obtain ⟨j, x, rfl, hg, hc⟩ := am_ldi_inv hs
    simp only [ar_chk, decide_eq_true_eq, List.cons.injEq, and_true] at hck
    obtain ⟨rfl, rfl⟩ := hck
    obtain rfl : n = 1 := by omega
    cases hc
    exact lv_iload_n hx hb hdg rfl (ar_lv_in hl hg (fun _ h => by cases h)) (kS rfl rfl)
  · obtain ⟨j, x, rfl, hg, hc⟩ := am_ldl_inv hs
    simp only [ar_chk, decide_eq_true_eq, List.cons.injEq, and_true] at hck
    obtain ⟨rfl, rfl⟩ := hck
    obtain rfl : n = 2 := by omega
    cases hc
    exact lv_lload hx hb hdg (ar_lv_in hl hg (fun _ h => by cases h)) (kS rfl rfl)
  · obtain ⟨j, x, rfl, hg, hc⟩ := am_ldl_inv hs
    simp only [ar_chk, decide_eq_true_eq, List.cons.injEq, and_true] at hck
    obtain ⟨rfl, rfl⟩ := hck
    obtain rfl : n = 1 := by omega
    cases hc
    exact lv_lload_n hx hb hdg rfl (ar_lv_in hl hg (fun _ h => by cases h)) (kS rfl rfl)
  · obtain ⟨j, v, rfl, hg, hv, hc⟩ := am_lda_inv hs
    simp only [ar_chk, decide_eq_true_eq, List.cons.injEq, and_true] at hck
    obtain ⟨rfl, rfl⟩ := hck
    obtain rfl : n = 2 := by omega
    cases hc
    have hv' := ar_lv_in hl hg (fun a h => by rcases hv with q | ⟨x, q⟩ <;> rw [q] at h <;> cases h)
    have k0 := kS rfl rfl
    rw [List.map_cons] at k0
    rcases ar_vref (B := B) hex hv with q | ⟨a, q⟩
    · rw [q] at k0 hv'
      exact lv_aloadN hx hb hdg hv' k0
    · rw [q] at k0 hv'
      exact lv_aload hx hb hdg hv' k0
  · obtain ⟨j, v, rfl, hg, hv, hc⟩ := am_lda_inv hs
    simp only [ar_chk, decide_eq_true_eq, List.cons.injEq, and_true] at hck
    obtain ⟨rfl, rfl⟩ := hck
    obtain rfl : n = 1 := by omega
    cases hc
    have hv' := ar_lv_in hl hg (fun a h => by rcases hv with q | ⟨x, q⟩ <;> rw [q] at h <;> cases h)
    have k0 := kS rfl rfl
    rw [List.map_cons] at k0
    rcases ar_vref (B := B) hex hv with q | ⟨a, q⟩
    · rw [q] at k0 hv'
      exact lv_aload_nN hx hb hdg rfl hv' k0
    · rw [q] at k0 hv'
      exact lv_aload_n hx hb hdg rfl hv' k0
  · obtain ⟨j, x, r, rfl, rfl, hj, hc, h3⟩ := am_sti_inv hs
    simp only [ar_chk, decide_eq_true_eq, List.cons.injEq, and_true] at hck
    obtain ⟨rfl, rfl⟩ := hck
    obtain rfl : n = 2 := by omega
    cases hc
    exact lv_istore (lv' := _) hx hb hdg hl (Nat.lt_of_lt_of_le hj hn) rfl (fun lsl1 h1 => kL lsl1 rfl (by simp) (h1.less (ar_lv_set (v := .int x) hex h3)))
  · obtain ⟨j, x, r, rfl, rfl, hj, hc, h3⟩ := am_sti_inv hs
    simp only [ar_chk, decide_eq_true_eq, List.cons.injEq, and_true] at hck
    obtain ⟨rfl, rfl⟩ := hck
    obtain rfl : n = 1 := by omega
    cases hc
    exact lv_istore_n (lv' := _) hx hb hdg rfl hl (Nat.lt_of_lt_of_le hj hn) rfl (fun lsl1 h1 => kL lsl1 rfl (by simp) (h1.less (ar_lv_set (v := .int x) hex h3)))
  · obtain ⟨j, v, r, rfl, rfl, hv, hj, hc, h3⟩ := am_sta_inv hs
    simp only [ar_chk, decide_eq_true_eq, List.cons.injEq, and_true] at hck
    obtain ⟨rfl, rfl⟩ := hck
    obtain rfl : n = 2 := by omega
    cases hc
    have hm := ar_lv_set (B := B) (ls := ls) (v := v) hex h3
    rw [List.map_cons]
    rcases ar_vref (B := B) hex hv with q | ⟨a, q⟩
    · rw [q] at hm ⊢
      exact lv_astoreN (lv' := _) hx hb hdg hl (Nat.lt_of_lt_of_le hj hn) rfl (fun lsl1 h1 => kL lsl1 rfl (by simp) (h1.less hm))
    · rw [q] at hm ⊢
      exact lv_astore (lv' := _) hx hb hdg hl (Nat.lt_of_lt_of_le hj hn) rfl (fun lsl1 h1 => kL lsl1 rfl (by simp) (h1.less hm))
  · obtain ⟨j, v, r, rfl, rfl, hv, hj, hc, h3⟩ := am_sta_inv hs
    simp only [ar_chk, decide_eq_true_eq, List.cons.injEq, and_true] at hck
    obtain ⟨rfl, rfl⟩ := hck
    obtain rfl : n = 1 := by omega
    cases hc
    have hm := ar_lv_set (B := B) (ls := ls) (v := v) hex h3
    rw [List.map_cons]
    rcases ar_vref (B := B) hex hv with q | ⟨a, q⟩
    · rw [q] at hm ⊢
      exact lv_astore_nN (lv' := _) hx hb hdg rfl hl (Nat.lt_of_lt_of_le hj hn) rfl (fun lsl1 h1 => kL lsl1 rfl (by simp) (h1.less hm))
    · rw [q] at hm ⊢
      exact lv_astore_n (lv' := _) hx hb hdg rfl hl (Nat.lt_of_lt_of_le hj hn) rfl (fun lsl1 h1 => kL lsl1 rfl (by simp) (h1.less hm))
  · obtain ⟨v, z, rfl, hc⟩ := am_cst_inv hs
    simp only [ar_chk, decide_eq_true_eq, List.cons.injEq, and_true] at hck
    obtain ⟨hv, rfl⟩ := hck
    obtain rfl : n = 1 := by omega
    cases hc
    exact lv_iconst hx hb hdg hv (kS rfl rfl)
  · obtain ⟨v, z, rfl, hc⟩ := am_cst_inv hs
    simp only [ar_chk, decide_eq_true_eq, List.cons.injEq, and_true] at hck
    obtain ⟨hv, rfl⟩ := hck
    obtain rfl : n = 2 := by omega
    cases hc
    exact lv_bipush hx hb hdg hv (kS rfl rfl)
  · obtain ⟨v, z, rfl, hc⟩ := am_cst_inv hs
    simp only [ar_chk, decide_eq_true_eq, List.cons.injEq, and_true] at hck
    obtain ⟨hv, rfl⟩ := hck
    obtain rfl : n = 3 := by omega
    cases hc
    exact lv_sipush hx hb hdg hv (kS rfl rfl)
  · split at hs
    · simp only [ar_chk, decide_eq_true_eq, List.cons.injEq, and_true] at hck
      obtain ⟨hv, rfl⟩ := hck
      obtain rfl : n = 1 := by omega
      cases hs
      exact lv_lconst (v := 0) hx hb hdg (by rw [← hv]; rfl) (kS rfl rfl)
    · cases hs
  · split at hs
    · rename_i j v z
      split at hs
      · rename_i x hg
        obtain ⟨hj, hc, h3⟩ := am_set_eq hs
        cases hc
        simp only [ar_chk, decide_eq_true_eq, List.cons.injEq, and_true] at hck
        obtain ⟨rfl, hv, rfl⟩ := hck
        obtain rfl : n = 3 := by omega
        have hin : (j, Value.int x) ∈ ar_lv B ex ls := ar_lv_mem.mpr ⟨.int x, hg, (fun _ h => by cases h), rfl⟩
        obtain ⟨k, hk⟩ := List.mem_iff_getElem?.mp hin
        exact lv_iinc (lv' := _) hx hb hdg hl hk (by rw [hv]) (Nat.lt_of_lt_of_le hj hn) rfl (fun lsl1 h1 => kL lsl1 rfl (by simp) (h1.less (ar_lv_set (v := .int (x + v)) hex h3)))
      · cases hs
    · cases hs
  · split at hs
    · simp only [ar_chk, decide_eq_true_eq, List.cons.injEq, and_true] at hck
      subst hck
      obtain rfl : n = 1 := by omega
      cases hs
      exact lv_iadd hx hb hdg (kS rfl rfl)
    · cases hs
  · split at hs
    · simp only [ar_chk, decide_eq_true_eq, List.cons.injEq, and_true] at hck
      subst hck
      obtain rfl : n = 1 := by omega
      cases hs
      exact lv_isub hx hb hdg (kS rfl rfl)
    · cases hs
  · split at hs
    · simp only [ar_chk, decide_eq_true_eq, List.cons.injEq, and_true] at hck
      subst hck
      obtain rfl : n = 1 := by omega
      cases hs
      exact lv_imul hx hb hdg (kS rfl rfl)
    · cases hs
  · split at hs
    · simp only [ar_chk, decide_eq_true_eq, List.cons.injEq, and_true] at hck
      subst hck
      obtain rfl : n = 1 := by omega
      cases hs
      exact lv_iand hx hb hdg (kS rfl rfl)
    · cases hs
  · split at hs
    · simp only [ar_chk, decide_eq_true_eq, List.cons.injEq, and_true] at hck
      subst hck
      obtain rfl : n = 1 := by omega
      cases hs
      exact lv_ior hx hb hdg (kS rfl rfl)
    · cases hs
  · split at hs
    · simp only [ar_chk, decide_eq_true_eq, List.cons.injEq, and_true] at hck
      subst hck
      obtain rfl : n = 1 := by omega
      cases hs
      exact lv_ixor hx hb hdg (kS rfl rfl)
    · cases hs
  · split at hs
    · simp only [ar_chk, decide_eq_true_eq, List.cons.injEq, and_true] at hck
      subst hck
      obtain rfl : n = 1 := by omega
      cases hs
      exact lv_ishl hx hb hdg (kS rfl rfl)
    · cases hs
  · split at hs
    · simp only [ar_chk, decide_eq_true_eq, List.cons.injEq, and_true] at hck
      subst hck
      obtain rfl : n = 1 := by omega
      cases hs
      exact lv_ishr hx hb hdg (kS rfl rfl)
    · cases hs
  · split at hs
    · simp only [ar_chk, decide_eq_true_eq, List.cons.injEq, and_true] at hck
      subst hck
      obtain rfl : n = 1 := by omega
      cases hs
      exact lv_iushr hx hb hdg rfl (kS rfl rfl)
    · cases hs
  · split at hs
    · simp only [ar_chk, decide_eq_true_eq, List.cons.injEq, and_true] at hck
      subst hck
      obtain rfl : n = 1 := by omega
      obtain ⟨hp, hs⟩ := am_grdI hs
      cases hs
      exact lv_idiv hx hb hdg hp (kS rfl rfl)
    · cases hs
  · split at hs
    · simp only [ar_chk, decide_eq_true_eq, List.cons.injEq, and_true] at hck
      subst hck
      obtain rfl : n = 1 := by omega
      obtain ⟨hp, hs⟩ := am_grdI hs
      cases hs
      exact lv_irem hx hb hdg hp (kS rfl rfl)
    · cases hs
  · split at hs
    · simp only [ar_chk, decide_eq_true_eq, List.cons.injEq, and_true] at hck
      subst hck
      obtain rfl : n = 1 := by omega
      cases hs
      exact lv_ineg hx hb hdg (kS rfl rfl)
    · cases hs
  · split at hs
    · simp only [ar_chk, decide_eq_true_eq, List.cons.injEq, and_true] at hck
      subst hck
      obtain rfl : n = 1 := by omega
      cases hs
      exact lv_i2b hx hb hdg rfl (kS rfl rfl)
    · cases hs
  · split at hs
    · simp only [ar_chk, decide_eq_true_eq, List.cons.injEq, and_true] at hck
      subst hck
      obtain rfl : n = 1 := by omega
      cases hs
      exact lv_i2s hx hb hdg rfl (kS rfl rfl)
    · cases hs
  · split at hs
    · simp only [ar_chk, decide_eq_true_eq, List.cons.injEq, and_true] at hck
      subst hck
      obtain rfl : n = 1 := by omega
      cases hs
      exact lv_i2c hx hb hdg rfl (kS rfl rfl)
    · cases hs
  · split at hs
    · simp only [ar_chk, decide_eq_true_eq, List.cons.injEq, and_true] at hck
      subst hck
      obtain rfl : n = 1 := by omega
      cases hs
      exact lv_i2l hx hb hdg rfl (kS rfl rfl)
    · cases hs
  · split at hs
    · simp only [ar_chk, decide_eq_true_eq, List.cons.injEq, and_true] at hck
      subst hck
      obtain rfl : n = 1 := by omega
      cases hs
      exact lv_l2i hx hb hdg rfl (kS rfl rfl)
    · cases hs
  · split at hs
    · simp only [ar_chk, decide_eq_true_eq, List.cons.injEq, and_true] at hck
      subst hck
      obtain rfl : n = 1 := by omega
      cases hs
      exact lv_dup hx hb hdg rfl (kS rfl rfl)
    · simp only [ar_chk, decide_eq_true_eq, List.cons.injEq, and_true] at hck
      subst hck
      obtain rfl : n = 1 := by omega
      cases hs
      exact lv_dup hx hb hdg (ar_v_cat hex _) (kS rfl rfl)
    · cases hs
  · split at hs
    · simp only [ar_chk, decide_eq_true_eq, List.cons.injEq, and_true] at hck
      subst hck
      obtain rfl : n = 1 := by omega
      cases hs
      exact lv_dup_x1 hx hb hdg rfl (ar_v_cat hex _) (kS rfl rfl)
    · cases hs
  · split at hs
    · simp only [ar_chk, decide_eq_true_eq, List.cons.injEq, and_true] at hck
      subst hck
      obtain rfl : n = 1 := by omega
      cases hs
      exact lv_dup2_11 hx hb hdg rfl (ar_v_cat hex _) (kS rfl rfl)
    · cases hs
  · split at hs
    · simp only [ar_chk, decide_eq_true_eq, List.cons.injEq, and_true] at hck
      subst hck
      obtain rfl : n = 1 := by omega
      cases hs
      exact lv_pop hx hb hdg rfl (kS rfl rfl)
    · cases hs
  · simp only [ar_chk, decide_eq_true_eq, List.cons.injEq, and_true] at hck
    subst hck
    obtain rfl : n = 1 := by omega
    cases hs
    exact lv_null hx hb hdg (kS rfl rfl)
  · split at hs
    · simp only [ar_chk, decide_eq_true_eq, List.cons.injEq, and_true] at hck
      obtain ⟨ht, rfl⟩ := hck
      obtain rfl : n = 3 := by omega
      unfold am_brk at hs
      split at hs
      · rename_i hp
        cases hs
        exact lv_if_eq hx hb hdg ht (fun _ => kS rfl rfl) (fun q => absurd hp q)
      · rename_i hp
        cases hs
        exact lv_if_eq hx hb hdg ht (fun q => absurd q hp) (fun _ => kS rfl rfl)
    · cases hs
  · split at hs
    · simp only [ar_chk, decide_eq_true_eq, List.cons.injEq, and_true] at hck
      obtain ⟨ht, rfl⟩ := hck
      obtain rfl : n = 3 := by omega
      unfold am_brk at hs
      split at hs
      · rename_i hp
        cases hs
        exact lv_if_ne hx hb hdg ht (fun _ => kS rfl rfl) (fun q => absurd q hp)
      · rename_i hp
        cases hs
        exact lv_if_ne hx hb hdg ht (fun q => absurd q hp) (fun _ => kS rfl rfl)
    · cases hs
  · split at hs
    · simp only [ar_chk, decide_eq_true_eq, List.cons.injEq, and_true] at hck
      obtain ⟨ht, rfl⟩ := hck
      obtain rfl : n = 3 := by omega
      unfold am_brk at hs
      split at hs
      · rename_i hp
        cases hs
        exact lv_if_lt hx hb hdg ht (fun _ => kS rfl rfl) (fun q => absurd hp q)
      · rename_i hp
        cases hs
        exact lv_if_lt hx hb hdg ht (fun q => absurd q hp) (fun _ => kS rfl rfl)
    · cases hs
  · split at hs
    · simp only [ar_chk, decide_eq_true_eq, List.cons.injEq, and_true] at hck
      obtain ⟨ht, rfl⟩ := hck
      obtain rfl : n = 3 := by omega
      unfold am_brk at hs
      split at hs
      · rename_i hp
        cases hs
        exact lv_if_ge hx hb hdg ht (fun _ => kS rfl rfl) (fun q => absurd hp q)
      · rename_i hp
        cases hs
        exact lv_if_ge hx hb hdg ht (fun q => absurd q hp) (fun _ => kS rfl rfl)
    · cases hs
  · split at hs
    · simp only [ar_chk, decide_eq_true_eq, List.cons.injEq, and_true] at hck
      obtain ⟨ht, rfl⟩ := hck
      obtain rfl : n = 3 := by omega
      unfold am_brk at hs
      split at hs
      · rename_i hp
        cases hs
        exact lv_if_gt hx hb hdg ht (fun _ => kS rfl rfl) (fun q => absurd hp q)
      · rename_i hp
        cases hs
        exact lv_if_gt hx hb hdg ht (fun q => absurd q hp) (fun _ => kS rfl rfl)
    · cases hs
  · split at hs
    · simp only [ar_chk, decide_eq_true_eq, List.cons.injEq, and_true] at hck
      obtain ⟨ht, rfl⟩ := hck
      obtain rfl : n = 3 := by omega
      unfold am_brk at hs
      split at hs
      · rename_i hp
        cases hs
        exact lv_if_le hx hb hdg ht (fun _ => kS rfl rfl) (fun q => absurd hp q)
      · rename_i hp
        cases hs
        exact lv_if_le hx hb hdg ht (fun q => absurd q hp) (fun _ => kS rfl rfl)
    · cases hs
  · split at hs
    · simp only [ar_chk, decide_eq_true_eq, List.cons.injEq, and_true] at hck
      obtain ⟨ht, rfl⟩ := hck
      obtain rfl : n = 3 := by omega
      unfold am_brk at hs
      split at hs
      · rename_i hp
        cases hs
        exact lv_icmp_eq hx hb hdg ht (fun _ => kS rfl rfl) (fun q => absurd hp q)
      · rename_i hp
        cases hs
        exact lv_icmp_eq hx hb hdg ht (fun q => absurd q hp) (fun _ => kS rfl rfl)
    · cases hs
  · split at hs
    · simp only [ar_chk, decide_eq_true_eq, List.cons.injEq, and_true] at hck
      obtain ⟨ht, rfl⟩ := hck
      obtain rfl : n = 3 := by omega
      unfold am_brk at hs
      split at hs
      · rename_i hp
        cases hs
        exact lv_icmp_ne hx hb hdg ht (fun _ => kS rfl rfl) (fun q => absurd q hp)
      · rename_i hp
        cases hs
        exact lv_icmp_ne hx hb hdg ht (fun q => absurd q hp) (fun _ => kS rfl rfl)
    · cases hs
  · split at hs
    · simp only [ar_chk, decide_eq_true_eq, List.cons.injEq, and_true] at hck
      obtain ⟨ht, rfl⟩ := hck
      obtain rfl : n = 3 := by omega
      unfold am_brk at hs
      split at hs
      · rename_i hp
        cases hs
        exact lv_icmp_lt hx hb hdg ht (fun _ => kS rfl rfl) (fun q => absurd hp q)
      · rename_i hp
        cases hs
        exact lv_icmp_lt hx hb hdg ht (fun q => absurd q hp) (fun _ => kS rfl rfl)
    · cases hs
  · split at hs
    · simp only [ar_chk, decide_eq_true_eq, List.cons.injEq, and_true] at hck
      obtain ⟨ht, rfl⟩ := hck
      obtain rfl : n = 3 := by omega
      unfold am_brk at hs
      split at hs
      · rename_i hp
        cases hs
        exact lv_icmp_ge hx hb hdg ht (fun _ => kS rfl rfl) (fun q => absurd hp q)
      · rename_i hp
        cases hs
        exact lv_icmp_ge hx hb hdg ht (fun q => absurd q hp) (fun _ => kS rfl rfl)
    · cases hs
  · split at hs
    · simp only [ar_chk, decide_eq_true_eq, List.cons.injEq, and_true] at hck
      obtain ⟨ht, rfl⟩ := hck
      obtain rfl : n = 3 := by omega
      unfold am_brk at hs
      split at hs
      · rename_i hp
        cases hs
        exact lv_icmp_gt hx hb hdg ht (fun _ => kS rfl rfl) (fun q => absurd hp q)
      · rename_i hp
        cases hs
        exact lv_icmp_gt hx hb hdg ht (fun q => absurd q hp) (fun _ => kS rfl rfl)
    · cases hs
  · split at hs
    · simp only [ar_chk, decide_eq_true_eq, List.cons.injEq, and_true] at hck
      obtain ⟨ht, rfl⟩ := hck
      obtain rfl : n = 3 := by omega
      unfold am_brk at hs
      split at hs
      · rename_i hp
        cases hs
        exact lv_icmp_le hx hb hdg ht (fun _ => kS rfl rfl) (fun q => absurd hp q)
      · rename_i hp
        cases hs
        exact lv_icmp_le hx hb hdg ht (fun q => absurd q hp) (fun _ => kS rfl rfl)
    · cases hs
  · split at hs
    · rename_i a r
      obtain ⟨a, rfl⟩ : ∃ b : Nat, b = a := ⟨_, rfl⟩
      obtain ⟨hp, hs⟩ := am_grdI hs
      simp only [ar_chk, decide_eq_true_eq, List.cons.injEq, and_true] at hck
      obtain ⟨ht, rfl⟩ := hck
      obtain rfl : n = 3 := by omega
      cases hs
      rw [List.map_cons, ar_vlt (Nat.lt_trans hp (by decide))]
      exact lv_ifnull hx hb hdg (kS rfl rfl)
    · simp only [ar_chk, decide_eq_true_eq, List.cons.injEq, and_true] at hck
      obtain ⟨ht, rfl⟩ := hck
      obtain rfl : n = 3 := by omega
      cases hs
      exact lv_ifnullN hx hb hdg ht (kS rfl rfl)
    · cases hs
  · split at hs
    · rename_i a r
      obtain ⟨a, rfl⟩ : ∃ b : Nat, b = a := ⟨_, rfl⟩
      obtain ⟨hp, hs⟩ := am_grdI hs
      simp only [ar_chk, decide_eq_true_eq, List.cons.injEq, and_true] at hck
      obtain ⟨ht, rfl⟩ := hck
      obtain rfl : n = 3 := by omega
      cases hs
      rw [List.map_cons, ar_vlt (Nat.lt_trans hp (by decide))]
      exact lv_ifnonnull hx hb hdg ht (kS rfl rfl)
    · simp only [ar_chk, decide_eq_true_eq, List.cons.injEq, and_true] at hck
      obtain ⟨ht, rfl⟩ := hck
      obtain rfl : n = 3 := by omega
      cases hs
      exact lv_ifnonnullN hx hb hdg (kS rfl rfl)
    · cases hs
  · split at hs
    · simp only [ar_chk, decide_eq_true_eq, List.cons.injEq, and_true] at hck
      obtain ⟨ht, rfl⟩ := hck
      obtain rfl : n = 3 := by omega
      cases hs
      exact lv_goto hx hb hdg ht (kS rfl rfl)
    · cases hs
  · split at hs
    · simp only [ar_chk, Bool.and_eq_true, decide_eq_true_eq] at hck
      obtain ⟨⟨hd, hhi⟩, htab⟩ := hck
      rename_i dz lo hi offs d x r
      cases hs
      rcases ar_tabS (x := x) (d := d) htab with ⟨h1, h2⟩ | ⟨h1, h2, o, h3, h4⟩
      · rw [Array.length_toList] at h1
        exact lv_tableOut hx hb hdg (by rw [hhi]; exact h1) (by rw [h2]; exact hd) (kS rfl rfl)
      · rw [Array.length_toList] at h2
        exact lv_tableIn hx hb hdg h1 (by rw [hhi]; exact h2) (by rw [← Array.getElem?_toList]; exact h3) h4 (kS rfl rfl)
    · cases hs
  · split at hs
    · simp only [ar_chk, Bool.and_eq_true, decide_eq_true_eq] at hck
      obtain ⟨⟨hd, hp⟩, hlk⟩ := hck
      rename_i dz ps d x r
      cases hs
      exact lv_lookup hx hb hdg hp rfl (ar_lookS hd hlk) (kS rfl rfl)
    · cases hs
  · obtain ⟨ci, k, ty, q, a, r, rfl, rfl, hc⟩ := am_getf_inv hs
    simp only [ar_chk] at hck
    cases h90 : Nat.beq ci 90 with
    | true =>
      rw [h90] at hck
      simp only [cond_true, Bool.and_eq_true, decide_eq_true_eq] at hck
      obtain ⟨rfl, hck⟩ := hck
      obtain rfl : n = 3 := by omega
      rcases hc with ⟨n', hn', hk, ⟨rfl, hc⟩ | ⟨rfl, v, hv, hc⟩⟩ | ⟨h1, h2, ⟨rfl, hc⟩ | ⟨rfl, hc⟩⟩
      · cases hck
      · cases hck
      · obtain ⟨⟨adK, adV, hstr, had⟩, -⟩ := hE
        obtain ⟨i, rfl⟩ : ∃ i, a = 1000 + i := ⟨a - 1000, by omega⟩
        have hi : i < 7 := by omega
        cases hc
        have k0 := kS rfl rfl
        rw [List.map_cons, ar_vge (by omega), show 1000 + i + 100 = 1100 + i by omega, (had i hi).2.1] at k0
        rw [List.map_cons, ar_vge (by omega), (had i hi).1]
        exact vk_getf hx hb (hstr.1 i hi).2.2.1 hS hown (hts _ (ar_in hck rfl)) (fun _ h => h) hdg k0
      · obtain ⟨⟨adK, adV, hstr, had⟩, -⟩ := hE
        obtain ⟨i, rfl⟩ : ∃ i, a = 1000 + i := ⟨a - 1000, by omega⟩
        have hi : i < 7 := by omega
        cases hc
        rw [List.map_cons, ar_vge (by omega), (had i hi).1]
        exact vk_getf hx hb (hstr.1 i hi).2.1 hS hown (hts _ (ar_in hck rfl)) (fun _ h => h) hdg (kS rfl rfl)
    | false =>
      rw [h90] at hck
      simp only [cond_false, Bool.and_eq_true, decide_eq_true_eq] at hck
      obtain ⟨⟨⟨rfl, hci, hkN⟩, hty⟩, hw⟩ := hck
      obtain rfl : n = 3 := by omega
      rcases hc with ⟨n', hn', hk, ⟨rfl, hc⟩ | ⟨rfl, v, hv, hc⟩⟩ | ⟨h1, h2, ⟨rfl, hc⟩ | ⟨rfl, hc⟩⟩
      · have hty := of_decide_eq_true hty
        have hat := am_nth_some hn' (by omega)
        have hal := (List.getElem?_eq_some_iff.mp hat).1
        have hcell := ar_W_at (B := B) (ex := ex) (cI := cI) (cJ := cJ) (cS := cS) (I := I) (J := J) (R := R) hat
        rw [ar_cellO (by omega)] at hcell
        cases hc
        rw [List.map_cons, ar_vlt (show a < 1000 by have : tg.length ≤ 900 := h9; omega)]
        exact va_get (D := (dC, dI)) (ci := ci) (v := .int (I a k)) (C := ar_C ci) (T := ar_T ci) (N := ar_N ci) hx hb hts (ar_uin hci) hown hK hP a hcell (ar_cls ci hci).1 k hkN (hts _ (ar_in hw rfl)) (fun _ h => h) (by rw [ar_fs_get hk, if_neg (by omega)]) hdg (kS rfl rfl)
      · have hty := of_decide_eq_true hty
        have hat := am_nth_some hn' (by omega)
        have hal := (List.getElem?_eq_some_iff.mp hat).1
        have hcell := ar_W_at (B := B) (ex := ex) (cI := cI) (cJ := cJ) (cS := cS) (I := I) (J := J) (R := R) hat
        rw [ar_cellO (by omega)] at hcell
        cases hc
        rw [List.map_cons, ar_vlt (show a < 1000 by have : tg.length ≤ 900 := h9; omega)]
        exact va_get (D := (dC, dI)) (ci := ci) (v := ar_v B ex v) (C := ar_C ci) (T := ar_T ci) (N := ar_N ci) hx hb hts (ar_uin hci) hown hK hP a hcell (ar_cls ci hci).1 k hkN (hts _ (ar_in hw rfl)) (fun _ h => h) (by rw [ar_fs_get hk, if_pos hty, hv]) hdg (kS rfl rfl)
      · cases hty
      · cases hty
  · obtain ⟨ci, k, ty, q, v, a, r, n', rfl, rfl, hn', hk, hc⟩ := am_putf_inv hs
    simp only [ar_chk, Bool.and_eq_true, decide_eq_true_eq] at hck
    obtain ⟨⟨⟨rfl, hci, hkN, hft⟩, hw⟩, hf⟩ := hck
    obtain rfl : n = 3 := by omega
    have hat := am_nth_some hn' (by omega)
    have hal := (List.getElem?_eq_some_iff.mp hat).1
    have hcell := ar_W_at (B := B) (ex := ex) (cI := cI) (cJ := cJ) (cS := cS) (I := I) (J := J) (R := R) hat
    rw [ar_cellO (by omega)] at hcell
    have h1000 : a < 1000 := by have : tg.length ≤ 900 := h9; omega
    obtain ⟨ty0, hty0⟩ := (ar_cls ci hci).2.2.2
    rcases hc with ⟨x, rfl, hc, hx2⟩ | ⟨x, rfl, rfl, hc⟩
    · have hne : ¬ ar_ft ci k = 1 := by rcases hx2 with q | ⟨q, -⟩ <;> omega
      have hset : (ar_W B ex cI cJ cS (tg, I, J, R)).set a (B + a, .inr (ci, (ar_fs B ex I R a ci n').set k (.int x))) = ar_W B ex cI cJ cS (tg, am_upI I a k x, J, R) := ar_W_set hat (by rw [ar_cellO (by omega)]; exact congrArg (fun z => Sum.inr (ci, z)) (ar_fs_set hk (by rw [if_neg hne]; simp [am_upI]) (fun j hj => by by_cases hq : ar_ft ci j = 1 <;> simp [hq, am_upI, hj])).symm) (fun i u hi => ar_cellI i u hi)
      cases hc
      rw [List.map_cons, List.map_cons, ar_vlt h1000]
      rcases hx2 with rfl | ⟨rfl, hx2⟩
      · have hd : parseFieldDescriptor (ar_T ci k).2.2.1 = some .int := ar_ft0 hft
        cases hfin : (ar_T ci k).2.2.2 with
        | false => exact va_put (D := (dC, dI)) (ci := ci) (v := .int x) (C := ar_C ci) (T := ar_T ci) (N := ar_N ci) hx hb hts (ar_uin hci) ty0 hty0 (ar_cls ci hci).2.2.1 hown hK hP hD hS' a hcell (ar_cls ci hci).1 k hkN (hts _ (ar_in hw rfl)) (fun _ h => h) hfin hd rfl rfl (by simpa [ar_fs] using hk) hdg (fun H1 locs1 hP1 _ hS1 => kM _ _ _ H1 locs1 rfl rfl (by rw [hset] at hP1; exact hP1) hS1)
        | true =>
          obtain ⟨hini, hdecl⟩ : (am_mt y).1.name = "<init>" ∧ (ar_T ci k).1 = (am_mt y).1.cls := by simpa [hfin] using hf
          exact va_putF (D := (dC, dI)) (ci := ci) (v := .int x) (C := ar_C ci) (T := ar_T ci) (N := ar_N ci) hx hb hts (ar_uin hci) ty0 hty0 (ar_cls ci hci).2.2.1 hown hK hP hD hS' a hcell (ar_cls ci hci).1 k hkN (hts _ (ar_in hw rfl)) (fun _ h => h) hfin (hnm.trans hini) hdecl hd rfl rfl (by simpa [ar_fs] using hk) hdg (fun H1 locs1 hP1 _ hS1 => kM _ _ _ H1 locs1 rfl rfl (by rw [hset] at hP1; exact hP1) hS1)
      · have hd : parseFieldDescriptor (ar_T ci k).2.2.1 = some .boolean := ar_ft2 hft
        have hbn : narrow .boolean (.int x) = .int x := by rcases hx2 with rfl | rfl <;> rfl
        have hbf : fits .boolean (.int x) = true := by rcases hx2 with rfl | rfl <;> rfl
        cases hfin : (ar_T ci k).2.2.2 with
        | false => exact va_put (D := (dC, dI)) (ci := ci) (v := .int x) (C := ar_C ci) (T := ar_T ci) (N := ar_N ci) hx hb hts (ar_uin hci) ty0 hty0 (ar_cls ci hci).2.2.1 hown hK hP hD hS' a hcell (ar_cls ci hci).1 k hkN (hts _ (ar_in hw rfl)) (fun _ h => h) hfin hd hbn hbf (by simpa [ar_fs] using hk) hdg (fun H1 locs1 hP1 _ hS1 => kM _ _ _ H1 locs1 rfl rfl (by rw [hset] at hP1; exact hP1) hS1)
        | true =>
          obtain ⟨hini, hdecl⟩ : (am_mt y).1.name = "<init>" ∧ (ar_T ci k).1 = (am_mt y).1.cls := by simpa [hfin] using hf
          exact va_putF (D := (dC, dI)) (ci := ci) (v := .int x) (C := ar_C ci) (T := ar_T ci) (N := ar_N ci) hx hb hts (ar_uin hci) ty0 hty0 (ar_cls ci hci).2.2.1 hown hK hP hD hS' a hcell (ar_cls ci hci).1 k hkN (hts _ (ar_in hw rfl)) (fun _ h => h) hfin (hnm.trans hini) hdecl hd hbn hbf (by simpa [ar_fs] using hk) hdg (fun H1 locs1 hP1 _ hS1 => kM _ _ _ H1 locs1 rfl rfl (by rw [hset] at hP1; exact hP1) hS1)
    · have hset : (ar_W B ex cI cJ cS (tg, I, J, R)).set a (B + a, .inr (ci, (ar_fs B ex I R a ci n').set k (ar_v B ex (.ref x)))) = ar_W B ex cI cJ cS (tg, I, J, am_upR R a k (.ref x)) := ar_W_set hat (by rw [ar_cellO (by omega)]; exact congrArg (fun z => Sum.inr (ci, z)) (ar_fs_set hk (by rw [if_pos hft]; simp [am_upR]) (fun j hj => by by_cases hq : ar_ft ci j = 1 <;> simp [hq, am_upR, hj])).symm) (fun i u hi => ar_cellR i u hi)
      cases hc
      rw [List.map_cons, List.map_cons, ar_vlt h1000]
      · obtain ⟨fty, hd, hfty⟩ := ar_ft1 hft
        have hbn : narrow fty (ar_v B ex (.ref x)) = ar_v B ex (.ref x) := by rcases hfty with ⟨z, rfl⟩ | ⟨z, rfl⟩ <;> rfl
        have hbf : fits fty (ar_v B ex (.ref x)) = true := by rcases ar_vref (B := B) hex (Or.inr ⟨x, rfl⟩) with q | ⟨z, q⟩ <;> rw [q] <;> rcases hfty with ⟨z, rfl⟩ | ⟨z, rfl⟩ <;> rfl
        cases hfin : (ar_T ci k).2.2.2 with
        | false => exact va_put (D := (dC, dI)) (ci := ci) (v := ar_v B ex (.ref x)) (C := ar_C ci) (T := ar_T ci) (N := ar_N ci) hx hb hts (ar_uin hci) ty0 hty0 (ar_cls ci hci).2.2.1 hown hK hP hD hS' a hcell (ar_cls ci hci).1 k hkN (hts _ (ar_in hw rfl)) (fun _ h => h) hfin hd hbn hbf (by simpa [ar_fs] using hk) hdg (fun H1 locs1 hP1 _ hS1 => kM _ _ _ H1 locs1 rfl rfl (by rw [hset] at hP1; exact hP1) hS1)
        | true =>
          obtain ⟨hini, hdecl⟩ : (am_mt y).1.name = "<init>" ∧ (ar_T ci k).1 = (am_mt y).1.cls := by simpa [hfin] using hf
          exact va_putF (D := (dC, dI)) (ci := ci) (v := ar_v B ex (.ref x)) (C := ar_C ci) (T := ar_T ci) (N := ar_N ci) hx hb hts (ar_uin hci) ty0 hty0 (ar_cls ci hci).2.2.1 hown hK hP hD hS' a hcell (ar_cls ci hci).1 k hkN (hts _ (ar_in hw rfl)) (fun _ h => h) hfin (hnm.trans hini) hdecl hd hbn hbf (by simpa [ar_fs] using hk) hdg (fun H1 locs1 hP1 _ hS1 => kM _ _ _ H1 locs1 rfl rfl (by rw [hset] at hP1; exact hP1) hS1)
  · unfold am_gets at hs
    split at hs
    · simp only [ar_chk, Bool.and_eq_true, decide_eq_true_eq] at hck
      obtain ⟨⟨rfl, -⟩, hw⟩ := hck
      obtain rfl : n = 3 := by omega
      cases hs
      have k0 := kS rfl rfl
      obtain ⟨t, ht, hZ, -⟩ := hE.2.1
      rw [List.map_cons, ar_vge (by omega), ht] at k0
      exact va_gets hx hb hZ hS hown (hts _ (ar_in hw rfl)) (fun _ h => h) hdg k0
    · simp only [ar_chk, Bool.and_eq_true, decide_eq_true_eq] at hck
      obtain ⟨⟨rfl, -⟩, hw⟩ := hck
      obtain rfl : n = 3 := by omega
      cases hs
      have k0 := kS rfl rfl
      obtain ⟨t, ht, hZ, -⟩ := hE.2.2.1
      rw [List.map_cons, ar_vge (by omega), ht] at k0
      exact va_gets hx hb hZ hS hown (hts _ (ar_in hw rfl)) (fun _ h => h) hdg k0
    · simp only [ar_chk, Bool.and_eq_true, decide_eq_true_eq] at hck
      obtain ⟨⟨rfl, -⟩, hw⟩ := hck
      obtain rfl : n = 3 := by omega
      cases hs
      have k0 := kS rfl rfl
      exact va_gets hx hb hE.2.2.2.1 hS hown (hts _ (ar_in hw rfl)) (fun _ h => h) hdg k0
    · simp only [ar_chk, Bool.and_eq_true, decide_eq_true_eq] at hck
      obtain ⟨⟨rfl, -⟩, hw⟩ := hck
      obtain rfl : n = 3 := by omega
      cases hs
      have k0 := kS rfl rfl
      rw [List.map_cons, ar_vge (by omega)] at k0
      exact va_gets hx hb hE.2.2.2.2.1 hS hown (hts _ (ar_in hw rfl)) (fun _ h => h) hdg k0
    · cases hs
  · unfold am_ldc at hs
    split at hs
    · simp only [ar_chk, Bool.and_eq_true, decide_eq_true_eq] at hck
      obtain ⟨rfl, hw⟩ := hck
      obtain rfl : n = 2 := by omega
      cases hs
      exact lv_ldc hx hb hown (hts _ (ar_in hw rfl)) hdg (kS rfl rfl)
    · obtain ⟨hi, hs⟩ := am_condN hs
      simp only [ar_chk, decide_eq_true_eq] at hck
      obtain ⟨rfl, hv, rfl, hi7⟩ := hck
      obtain rfl : n = 2 := by omega
      cases hs
      have k0 := kS rfl rfl
      obtain ⟨⟨adK, adV, hstr, had⟩, -⟩ := hE
      rw [List.map_cons, ar_vge (by omega), (had _ hi7).1] at k0
      exact va_ldcS hx hb (own := "PetalPictures$Village") (by rw [← hv]; exact hown) (had _ hi7).2.2 hdg k0
    · cases hs
  · unfold am_aldi at hs
    split at hs
    · rename_i i a r tg' I' J' R' eM
      obtain ⟨a, rfl⟩ : ∃ b : Nat, b = a := ⟨_, rfl⟩
      cases eM
      split at hs
      rename_i kd n' hn'
      simp only [ar_chk, decide_eq_true_eq, List.cons.injEq, and_true] at hck
      subst hck
      obtain rfl : n = 1 := by omega
      rcases am_cond hs with ⟨hb1, h2⟩ | ⟨hb1, h2⟩
      · obtain rfl := Nat.eq_of_beq_eq_true hb1
        obtain ⟨hp, h3⟩ := am_grdI h2
        have hat := am_nth_some hn' (by omega)
        have hal := (List.getElem?_eq_some_iff.mp hat).1
        have hcell := ar_W_at (B := B) (ex := ex) (cI := cI) (cJ := cJ) (cS := cS) (I := I) (J := J) (R := R) hat
        cases h3
        rw [List.map_cons, List.map_cons, ar_vlt (show a < 1000 by have : tg.length ≤ 900 := h9; omega)]
        exact va_iald (D := (dC, dI)) hx hb hK hP a 0 hcell rfl hp hdg (kS rfl rfl)
      · obtain ⟨hb2, h3⟩ := am_condN h2
        obtain ⟨hp, h4⟩ := am_grdI h3
        simp only [Bool.and_eq_true, Bool.or_eq_true] at hb2
        rcases hb2.2 with q | q
        · obtain rfl := Nat.eq_of_beq_eq_true q
          obtain ⟨t, ht, -, hT⟩ := hE.2.1
          cases h4
          rw [List.map_cons, List.map_cons, ar_vge (by omega), ht]
          exact va_ti hx hb hT hS hp rfl hdg (kS rfl rfl)
        · obtain rfl := Nat.eq_of_beq_eq_true q
          obtain ⟨t, ht, -, hT⟩ := hE.2.2.1
          cases h4
          rw [List.map_cons, List.map_cons, ar_vge (by omega), ht]
          exact va_ti hx hb hT hS hp rfl hdg (kS rfl rfl)
    · cases hs
  · unfold am_aldb at hs
    split at hs
    · rename_i i a r tg' I' J' R' eM
      obtain ⟨a, rfl⟩ : ∃ b : Nat, b = a := ⟨_, rfl⟩
      cases eM
      simp only [ar_chk, decide_eq_true_eq, List.cons.injEq, and_true] at hck
      subst hck
      obtain rfl : n = 1 := by omega
      obtain ⟨hb2, h3⟩ := am_condN hs
      obtain ⟨hp, h4⟩ := am_grdI h3
      rw [Bool.and_eq_true] at hb2
      have ha1 := Nat.le_of_ble_eq_true hb2.1
      have ha2 := Nat.le_of_ble_eq_true hb2.2
      obtain ⟨⟨adK, adV, hstr, had⟩, -⟩ := hE
      obtain ⟨j, rfl⟩ : ∃ j, a = 1100 + j := ⟨a - 1100, by omega⟩
      have hj : j < 7 := by omega
      rw [show 1100 + j - 1100 = j by omega] at hp h4
      have hT := (hstr.1 j hj).2.2.2
      cases h4
      rw [List.map_cons, List.map_cons, ar_vge (by omega), (had j hj).2.1]
      exact va_tb hx hb hT hS (by rw [am_lens_eq hj]; exact hp) (by rw [am_nthI_eq, am_nthL_eq]; rfl) hdg (kS rfl rfl)
    · cases hs
  · unfold am_aldl at hs
    split at hs
    · rename_i i a r tg' I' J' R' eM
      obtain ⟨a, rfl⟩ : ∃ b : Nat, b = a := ⟨_, rfl⟩
      cases eM
      split at hs
      rename_i kd n' hn'
      simp only [ar_chk, decide_eq_true_eq, List.cons.injEq, and_true] at hck
      subst hck
      obtain rfl : n = 1 := by omega
      obtain ⟨hb1, h2⟩ := am_condN hs
      obtain rfl := Nat.eq_of_beq_eq_true hb1
      obtain ⟨hp, h3⟩ := am_grdI h2
      have hat := am_nth_some hn' (by omega)
      have hal := (List.getElem?_eq_some_iff.mp hat).1
      have hcell := ar_W_at (B := B) (ex := ex) (cI := cI) (cJ := cJ) (cS := cS) (I := I) (J := J) (R := R) hat
      cases h3
      rw [List.map_cons, List.map_cons, ar_vlt (show a < 1000 by have : tg.length ≤ 900 := h9; omega)]
      exact va_lald (D := (dC, dI)) hx hb hK hP a 1 hcell rfl hp hdg (kS rfl rfl)
    · cases hs
  · unfold am_alda at hs
    split at hs
    · rename_i i a r tg' I' J' R' eM
      obtain ⟨a, rfl⟩ : ∃ b : Nat, b = a := ⟨_, rfl⟩
      cases eM
      split at hs
      rename_i kd n' hn'
      simp only [ar_chk, decide_eq_true_eq, List.cons.injEq, and_true] at hck
      subst hck
      obtain rfl : n = 1 := by omega
      obtain ⟨hb1, h2⟩ := am_condN hs
      obtain rfl := Nat.eq_of_beq_eq_true hb1
      obtain ⟨hp, h3⟩ := am_grdI h2
      have hat := am_nth_some hn' (by omega)
      have hal := (List.getElem?_eq_some_iff.mp hat).1
      have hcell := ar_W_at (B := B) (ex := ex) (cI := cI) (cJ := cJ) (cS := cS) (I := I) (J := J) (R := R) hat
      rw [List.map_cons, List.map_cons, ar_vlt (show a < 1000 by have : tg.length ≤ 900 := h9; omega)]
      split at h3
      · rename_i x hv
        obtain ⟨x, rfl⟩ : ∃ b : Nat, b = x := ⟨_, rfl⟩
        obtain ⟨hb3, h5⟩ := am_condN h3
        have hx9 : x < 900 := Nat.le_of_ble_eq_true hb3
        cases h5
        have k0 := kS rfl rfl
        rw [List.map_cons, ar_vlt (by omega)] at k0
        exact va_aldq (D := (dC, dI)) hx hb hK hP a 2 hcell rfl hp hdg (by rw [hv]; exact k0)
      · rename_i hv
        cases h3
        exact va_aldq (D := (dC, dI)) hx hb hK hP a 2 hcell rfl hp hdg (by rw [hv]; exact kS rfl rfl)
      · cases h3
    · cases hs
  · unfold am_asti at hs
    split at hs
    · rename_i x i a r tg' I' J' R' eM
      obtain ⟨a, rfl⟩ : ∃ b : Nat, b = a := ⟨_, rfl⟩
      cases eM
      split at hs
      rename_i kd n' hn'
      simp only [ar_chk, decide_eq_true_eq, List.cons.injEq, and_true] at hck
      subst hck
      obtain rfl : n = 1 := by omega
      obtain ⟨hb1, h2⟩ := am_condN hs
      obtain rfl := Nat.eq_of_beq_eq_true hb1
      obtain ⟨hp, h3⟩ := am_grdI h2
      have hat := am_nth_some hn' (by omega)
      have hal := (List.getElem?_eq_some_iff.mp hat).1
      have hcell := ar_W_at (B := B) (ex := ex) (cI := cI) (cJ := cJ) (cS := cS) (I := I) (J := J) (R := R) hat
      have hset : (ar_W B ex cI cJ cS (tg, I, J, R)).set a (B + a, .inl (cI, n', .inl (upd (I a) i.toNatClampNeg x))) = ar_W B ex cI cJ cS (tg, am_upI I a i.toNatClampNeg x, J, R) := ar_W_set hat (by first | (rw [ar_cell50]; refine congrArg (fun z => Sum.inl (cI, n', Sum.inl z)) ?_; funext b; simp [am_upI, upd]; done) | (rw [ar_cell51]; refine congrArg (fun z => Sum.inl (cJ, n', Sum.inr (Sum.inl z))) ?_; funext b; simp [am_upJ, vp_updL]; done)) (fun i u hi => ar_cellI i u hi)
      cases h3
      rw [List.map_cons, List.map_cons, List.map_cons, ar_vlt (show a < 1000 by have : tg.length ≤ 900 := h9; omega)]
      exact va_iast (D := (dC, dI)) hx hb hK hP hD hS' a 0 hcell rfl hp hdg (fun H1 locs1 hP1 _ hS1 => kM _ _ _ H1 locs1 rfl rfl (by rw [hset] at hP1; exact hP1) hS1)
    · cases hs
  · unfold am_astl at hs
    split at hs
    · rename_i x i a r tg' I' J' R' eM
      obtain ⟨a, rfl⟩ : ∃ b : Nat, b = a := ⟨_, rfl⟩
      cases eM
      split at hs
      rename_i kd n' hn'
      simp only [ar_chk, decide_eq_true_eq, List.cons.injEq, and_true] at hck
      subst hck
      obtain rfl : n = 1 := by omega
      obtain ⟨hb1, h2⟩ := am_condN hs
      obtain rfl := Nat.eq_of_beq_eq_true hb1
      obtain ⟨hp, h3⟩ := am_grdI h2
      have hat := am_nth_some hn' (by omega)
      have hal := (List.getElem?_eq_some_iff.mp hat).1
      have hcell := ar_W_at (B := B) (ex := ex) (cI := cI) (cJ := cJ) (cS := cS) (I := I) (J := J) (R := R) hat
      have hset : (ar_W B ex cI cJ cS (tg, I, J, R)).set a (B + a, .inl (cJ, n', .inr (.inl (vp_updL (J a) i.toNatClampNeg x)))) = ar_W B ex cI cJ cS (tg, I, am_upJ J a i.toNatClampNeg x, R) := ar_W_set hat (by first | (rw [ar_cell50]; refine congrArg (fun z => Sum.inl (cI, n', Sum.inl z)) ?_; funext b; simp [am_upI, upd]; done) | (rw [ar_cell51]; refine congrArg (fun z => Sum.inl (cJ, n', Sum.inr (Sum.inl z))) ?_; funext b; simp [am_upJ, vp_updL]; done)) (fun i u hi => ar_cellJ i u hi)
      cases h3
      rw [List.map_cons, List.map_cons, List.map_cons, ar_vlt (show a < 1000 by have : tg.length ≤ 900 := h9; omega)]
      exact va_last (D := (dC, dI)) hx hb hK hP hD hS' a 1 hcell rfl hp hdg (fun H1 locs1 hP1 _ hS1 => kM _ _ _ H1 locs1 rfl rfl (by rw [hset] at hP1; exact hP1) hS1)
    · cases hs
  · unfold am_asta at hs
    split at hs
    · rename_i x i a r tg' I' J' R' eM
      obtain ⟨a, rfl⟩ : ∃ b : Nat, b = a := ⟨_, rfl⟩
      obtain ⟨x, rfl⟩ : ∃ b : Nat, b = x := ⟨_, rfl⟩
      cases eM
      split at hs
      rename_i kd n' kx nx' hn' hnx'
      simp only [ar_chk, decide_eq_true_eq, List.cons.injEq, and_true] at hck
      subst hck
      obtain rfl : n = 1 := by omega
      obtain ⟨hb1, h2⟩ := am_condN hs
      rw [Bool.and_eq_true] at hb1
      obtain rfl := Nat.eq_of_beq_eq_true hb1.1
      obtain rfl := Nat.eq_of_beq_eq_true hb1.2
      obtain ⟨hp, h3⟩ := am_grdI h2
      have hat := am_nth_some hn' (by omega)
      have hal := (List.getElem?_eq_some_iff.mp hat).1
      have hatx := am_nth_some hnx' (by omega)
      have halx := (List.getElem?_eq_some_iff.mp hatx).1
      have hcell := ar_W_at (B := B) (ex := ex) (cI := cI) (cJ := cJ) (cS := cS) (I := I) (J := J) (R := R) hat
      have hcellx := ar_W_at (B := B) (ex := ex) (cI := cI) (cJ := cJ) (cS := cS) (I := I) (J := J) (R := R) hatx
      rw [ar_cellO (by omega)] at hcellx
      have hset : (ar_W B ex cI cJ cS (tg, I, J, R)).set a (B + a, .inl (cS, n', .inr (.inr (.inr (.inr (va_up (fun j => ar_o B (R a j)) i.toNatClampNeg (some (B + x)))))))) = ar_W B ex cI cJ cS (tg, I, J, am_upR R a i.toNatClampNeg (.ref x)) := ar_W_set hat (by rw [ar_cell52]; refine congrArg (fun z => Sum.inl (cS, n', Sum.inr (Sum.inr (Sum.inr (Sum.inr z))))) ?_; funext b; by_cases hq : b = i.toNatClampNeg <;> simp [am_upR, va_up, hq, ar_o]) (fun i u hi => ar_cellR i u hi)
      cases h3
      rw [List.map_cons, List.map_cons, List.map_cons, ar_vlt (show a < 1000 by have : tg.length ≤ 900 := h9; omega), ar_vlt (show x < 1000 by have : tg.length ≤ 900 := h9; omega)]
      exact va_astq (D := (dC, dI)) hx hb hK hP hD hS' a 2 x 2 (r := (RX3, TX3, 5)) hcell rfl hcellx rfl hp hdg (fun H1 locs1 hP1 _ hS1 => kM _ _ _ H1 locs1 rfl rfl (by rw [hset] at hP1; exact hP1) hS1)
    · cases hs
  · unfold am_alen at hs
    split at hs
    · rename_i a r tg' I' J' R' eM
      obtain ⟨a, rfl⟩ : ∃ b : Nat, b = a := ⟨_, rfl⟩
      cases eM
      split at hs
      rename_i kd n' hn'
      simp only [ar_chk, decide_eq_true_eq, List.cons.injEq, and_true] at hck
      subst hck
      obtain rfl : n = 1 := by omega
      rcases am_cond hs with ⟨hb1, h2⟩ | ⟨hb1, h2⟩
      · rw [Bool.and_eq_true] at hb1
        have hk1 := Nat.le_of_ble_eq_true hb1.1
        have hk2 := Nat.le_of_ble_eq_true hb1.2
        have hat := am_nth_some hn' (by omega)
        have hal := (List.getElem?_eq_some_iff.mp hat).1
        have hcell := ar_W_at (B := B) (ex := ex) (cI := cI) (cJ := cJ) (cS := cS) (I := I) (J := J) (R := R) hat
        cases h2
        rw [List.map_cons, ar_vlt (show a < 1000 by have : tg.length ≤ 900 := h9; omega)]
        obtain rfl | rfl | rfl : kd = 50 ∨ kd = 51 ∨ kd = 52 := by omega
        · exact va_alen (D := (dC, dI)) hx hb hK hP a 0 hcell rfl rfl hdg (kS rfl rfl)
        · exact va_alen (D := (dC, dI)) hx hb hK hP a 1 hcell rfl rfl hdg (kS rfl rfl)
        · exact va_alen (D := (dC, dI)) hx hb hK hP a 2 hcell rfl rfl hdg (kS rfl rfl)
      · rcases am_cond h2 with ⟨hb2, h3⟩ | ⟨hb2, h3⟩
        · rw [Bool.and_eq_true] at hb2
          obtain rfl := Nat.eq_of_beq_eq_true hb2.2
          obtain ⟨t, ht, -, hT⟩ := hE.2.1
          cases h3
          rw [List.map_cons, ar_vge (by omega), ht]
          exact va_tlen hx hb hT hS rfl hdg (kS rfl rfl)
        · rcases am_cond h3 with ⟨hb3, h4⟩ | ⟨hb3, h4⟩
          · rw [Bool.and_eq_true] at hb3
            obtain rfl := Nat.eq_of_beq_eq_true hb3.2
            obtain ⟨t, ht, -, hT⟩ := hE.2.2.1
            cases h4
            rw [List.map_cons, ar_vge (by omega), ht]
            exact va_tlen hx hb hT hS rfl hdg (kS rfl rfl)
          · obtain ⟨hb4, h5⟩ := am_condN h4
            rw [Bool.and_eq_true, Bool.and_eq_true] at hb4
            have ha1 := Nat.le_of_ble_eq_true hb4.2.1
            have ha2 := Nat.le_of_ble_eq_true hb4.2.2
            obtain ⟨⟨adK, adV, hstr, had⟩, -⟩ := hE
            obtain ⟨j, rfl⟩ : ∃ j, a = 1100 + j := ⟨a - 1100, by omega⟩
            have hj : j < 7 := by omega
            rw [show 1100 + j - 1100 = j by omega] at h5
            have hT := (hstr.1 j hj).2.2.2
            cases h5
            rw [List.map_cons, ar_vge (by omega), (had j hj).2.1]
            exact va_tlen hx hb hT hS (by rw [am_lens_eq hj]) hdg (kS rfl rfl)
    · cases hs
  · cases al with
    | false => cases hs
    | true =>
      change am_new nx D ls st (tg, I, J, R) = _ at hs
      unfold am_new at hs
      split at hs
      · rename_i ci n' q tg' I' J' R' eM
        cases eM
        obtain ⟨hb1, h2⟩ := am_condN hs
        rw [Bool.and_eq_true] at hb1
        have h900 : tg.length < 900 := by have h := Nat.le_of_ble_eq_true hb1.1; rw [am_cnt_len] at h; exact h
        have hci : ci < 7 := Nat.le_of_ble_eq_true hb1.2
        simp only [ar_chk, Bool.and_eq_true, decide_eq_true_eq] at hck
        obtain ⟨⟨rfl, -, rfl⟩, hw⟩ := hck
        obtain rfl : n = 3 := by omega
        cases h2
        have k1 := kG (ci, ar_N ci)
        simp only [am_app_eq, am_cnt_len] at hroom k1
        rw [List.map_cons, ar_vlt (show tg.length < 1000 by omega)] at k1
        obtain ⟨hvc, hu, hnm2, ty, hty⟩ := ar_cls ci hci
        have hKn := hK.1 ci _ hvc
        refine W.sz (fun hsz => ?_)
        have hz' := hz rfl
        have hsize : H.size = B + tg.length := by have h := hz'.1; have h' := hz'.2; change B + tg.length ≤ _ at h; change B + tg.length = _ at h'; omega
        have hro : cells + 1 ≤ Rm.cells ∧ slots + ar_N ci ≤ Rm.slots := by simpa [ar_sum] using hroom
        refine W.newcK hx hb hown (hts _ (ar_in hw rfl)) (hts _ (ar_inT (ar_inst ci hci).1 rfl)) (hts _ (ar_inT (ar_inst ci hci).2 rfl)) rfl hdg hro.1 hro.2 hKn.2.1 hsize (fun H1 kC hkC e1 z1 o1 => ?_)
        refine k1 H1 trivial hsize trivial trivial h900 (ar_grow hP (ar_cellO (by omega)) ⟨_, hvc, (u_born ty hts (ar_uin hci) hKn hkC e1 hty).to (fun k hk => ?_)⟩ (fun q hq => o1 q (by omega))) (by omega) (fun q hq => o1 q (by omega))
        have h1 := hty k hk
        unfold vp_V
        rw [List.getD_eq_getElem?_getD, ar_fs_get hk]
        rcases ar_ftk ci hci k hk with q2 | q2 | q2
        · rw [if_neg (by omega)]
          have h2 := ar_ft0 q2
          rw [h1] at h2
          rw [Option.some.inj h2]
          simp [am_rowI, defaultValue]
        · rw [if_pos q2]
          obtain ⟨t2, h2, h3⟩ := ar_ft1 q2
          rw [h1] at h2
          rw [Option.some.inj h2]
          rcases h3 with ⟨z, rfl⟩ | ⟨z, rfl⟩ <;> simp [am_rowR, defaultValue, ar_v]
        · rw [if_neg (by omega)]
          have h2 := ar_ft2 q2
          rw [h1] at h2
          rw [Option.some.inj h2]
          simp [am_rowI, defaultValue]
      · cases hs
  · cases al with
    | false => cases hs
    | true =>
      change am_newa nx D ls st (tg, I, J, R) = _ at hs
      unfold am_newa at hs
      split at hs
      · rename_i kd q x r tg' I' J' R' eM
        cases eM
        obtain ⟨hb1, h2⟩ := am_condN hs
        rw [Bool.and_eq_true] at hb1
        have h900 : tg.length < 900 := by have h := Nat.le_of_ble_eq_true hb1.1; rw [am_cnt_len] at h; exact h
        obtain ⟨⟨hp1, hp2⟩, h3⟩ := am_grdI h2
        simp only [ar_chk, Bool.and_eq_true, decide_eq_true_eq] at hck
        obtain ⟨rfl, hck⟩ := hck
        obtain rfl : n = 2 := by omega
        cases h3
        have k1 := kG (kd, x.toNatClampNeg)
        simp only [am_app_eq, am_cnt_len] at hroom k1
        rw [List.map_cons, ar_vlt (show tg.length < 1000 by omega)] at k1
        rw [List.map_cons]
        refine W.sz (fun hsz => ?_)
        have hz' := hz rfl
        have hsize : H.size = B + tg.length := by have h := hz'.1; have h' := hz'.2; change B + tg.length ≤ _ at h; change B + tg.length = _ at h'; omega
        have hro : cells + 1 ≤ Rm.cells ∧ slots + x.toNatClampNeg ≤ Rm.slots := by simpa [ar_sum] using hroom
        split at hck
        · obtain rfl := of_decide_eq_true hck
          refine va_newaK (atype := .int) hx hb (hts _ (ar_inT ar_arrW.1 rfl)) rfl hdg rfl hp1 rfl (by show _ * 4 ≤ _; omega) hro.1 hro.2 hsize (fun H1 cA e1 z1 o1 hAr hNm => ?_)
          cases hNm.symm.trans (hK.2 0 _ rfl).2
          refine k1 H1 trivial hsize trivial trivial h900 (ar_grow hP ar_cell50 ?_ (fun q hq => o1 q (by omega))) (by omega) (fun q hq => o1 q (by omega))
          show H1[B + tg.length]? = some (vp_cell _ _)
          rw [e1, vp_cell_i]
          simp [am_rowI, newarray.typeOf, defaultValue]
        · obtain rfl := of_decide_eq_true hck
          refine va_newaK (atype := .long) hx hb (hts _ (ar_inT ar_arrW.2 rfl)) rfl hdg rfl hp1 rfl (by show _ * 8 ≤ _; omega) hro.1 hro.2 hsize (fun H1 cA e1 z1 o1 hAr hNm => ?_)
          cases hNm.symm.trans (hK.2 1 _ rfl).2
          refine k1 H1 trivial hsize trivial trivial h900 (ar_grow hP ar_cell51 ?_ (fun q hq => o1 q (by omega))) (by omega) (fun q hq => o1 q (by omega))
          show H1[B + tg.length]? = some (vp_cell _ _)
          rw [e1, vp_cell_l]
          simp [am_rowJ, newarray.typeOf, defaultValue]
        · cases hck
      · cases hs
  · cases al with
    | false => cases hs
    | true =>
      change am_newa nx D ls st (tg, I, J, R) = _ at hs
      unfold am_newa at hs
      split at hs
      · rename_i kd q x r tg' I' J' R' eM
        cases eM
        obtain ⟨hb1, h2⟩ := am_condN hs
        rw [Bool.and_eq_true] at hb1
        have h900 : tg.length < 900 := by have h := Nat.le_of_ble_eq_true hb1.1; rw [am_cnt_len] at h; exact h
        obtain ⟨⟨hp1, hp2⟩, h3⟩ := am_grdI h2
        simp only [ar_chk, Bool.and_eq_true, decide_eq_true_eq] at hck
        obtain ⟨⟨rfl, rfl⟩, hw⟩ := hck
        obtain rfl : n = 3 := by omega
        cases h3
        have k1 := kG (52, x.toNatClampNeg)
        simp only [am_app_eq, am_cnt_len] at hroom k1
        rw [List.map_cons, ar_vlt (show tg.length < 1000 by omega)] at k1
        rw [List.map_cons]
        refine W.sz (fun hsz => ?_)
        have hz' := hz rfl
        have hsize : H.size = B + tg.length := by have h := hz'.1; have h' := hz'.2; change B + tg.length ≤ _ at h; change B + tg.length = _ at h'; omega
        have hro : cells + 1 ≤ Rm.cells ∧ slots + x.toNatClampNeg ≤ Rm.slots := by simpa [ar_sum] using hroom
        refine W.anew hx hb hown (hts _ (ar_in hw rfl)) (va_AO.use hE.2.2.2.2.2.2.2) rfl hdg rfl hp1 (by omega) hro.1 hro.2 (fun cA kA comp f1 f2 f3 f4 => ?_)
        obtain ⟨-, -, -, -, -, hcS⟩ := (hK.2 2 _ rfl).2
        cases f1.symm.trans hcS
        rw [hsize]
        refine k1 _ trivial hsize trivial trivial h900 (ar_grow hP ar_cell52 ?_ (fun q hq => by rw [Array.getElem?_push, if_neg (Nat.ne_of_lt hq)])) (by simp) (fun q hq => by rw [Array.getElem?_push, if_neg (Nat.ne_of_lt hq)])
        show _ = some (arrV cS x.toNatClampNeg (fun j => va_rf (ar_o B (am_rowR R tg.length tg.length j))))
        have e9 : (fun j => va_rf (ar_o B (am_rowR R tg.length tg.length j))) = fun _ => Value.null := by funext j; simp [am_rowR, ar_o, va_rf]
        rw [e9, ← hsize, Array.getElem?_push_size, ← arrV_new]
      · cases hs
  · obtain ⟨z, kd, na, mx, ci, t, rfl, hc⟩ := am_inv_inv hs
    simp only [ar_chk] at hck
    split at hck
    · rename_i hD
      cases hD
      simp only [Bool.and_eq_true, decide_eq_true_eq] at hck
      obtain ⟨⟨-, -, hkd, -⟩, -⟩ := hck
      rcases hc with ⟨q, -⟩ | ⟨-, xs, rest, -, -, -, -, h2⟩
      · omega
      · rcases am_inv2_inl h2 with ⟨q, -⟩ | ⟨_, _, -, ⟨q, -⟩ | ⟨q, -⟩⟩ <;> omega
    · cases hck
  · obtain ⟨z, kd, na, mx, ci, t, rfl, hc⟩ := am_inv_inv hs
    simp only [ar_chk] at hck
    split at hck
    · rename_i hD
      cases hD
      rcases hc with ⟨rfl, -⟩ | ⟨hk6, xs, rest, rfl, hxs, hrest, -, h2⟩
      · simp only [show Nat.beq 6 3 = false from rfl, cond_false, Bool.and_eq_true, decide_eq_true_eq] at hck
        omega
      · rcases am_inv2_inl h2 with ⟨rfl, a, hxa, hlt, hc⟩ | ⟨_, _, -, ⟨rfl, -⟩ | ⟨rfl, -⟩⟩
        · simp only [show Nat.beq 3 3 = true from rfl, cond_true, Bool.and_eq_true, decide_eq_true_eq] at hck
          obtain ⟨⟨rfl, -⟩, hw⟩ := hck
          obtain rfl : n = 3 := by omega
          obtain rfl : xs = [.ref a] := by rw [← List.reverse_reverse xs, hxa]; rfl
          cases hc
          have h1000 : a < 1000 := by have : tg.length ≤ 900 := h9; omega
          rw [List.map_append, List.map_cons, ar_vlt h1000]
          exact W.objInit hx hb hown (hts _ (ar_in hw rfl)) (hts _ (ar_inT ar_objW.1 rfl)) (hts _ (ar_inT ar_objW.2 rfl)) rfl (by rw [hml]; exact hls) rfl hdg hfr.1 (by have h := am_ws_eq (B := B) hex st'; show 2 * 0 + ((st'.map (ar_v B ex)).map fun v => v.category).sum + 12 ≤ _; omega) (kS rfl rfl)
        · simp only [show Nat.beq 8 3 = false from rfl, cond_false, Bool.and_eq_true, decide_eq_true_eq] at hck
          omega
        · simp only [show Nat.beq 9 3 = false from rfl, cond_false, Bool.and_eq_true, decide_eq_true_eq] at hck
          omega
    · cases hck
  · obtain ⟨z, kd, na, mx, ci, t, rfl, hc⟩ := am_inv_inv hs
    simp only [ar_chk] at hck
    split at hck
    · rename_i hD
      cases hD
    · rename_i hD
      cases hD
      rcases hc with ⟨rfl, h2⟩ | ⟨hk6, xs, rest, rfl, hxs, hrest, -, h2⟩
      · simp only [show Nat.beq 6 6 = true from rfl, cond_true, Bool.and_eq_true, decide_eq_true_eq] at hck
        obtain ⟨rfl, hw⟩ := hck
        obtain rfl : n = 3 := by omega
        unfold am_copy at h2
        split at h2
        · rename_i x dp a2 sp a1 r tg' I' J' R' eM
          obtain ⟨a1, rfl⟩ : ∃ b : Nat, b = a1 := ⟨_, rfl⟩
          obtain ⟨a2, rfl⟩ : ∃ b : Nat, b = a2 := ⟨_, rfl⟩
          cases eM
          obtain ⟨hrest, h3⟩ := am_condN h2
          have hrest := Nat.le_of_ble_eq_true hrest
          have hroomL : ((r.map (ar_v B ex)).map fun v => v.category).sum + (nativeFrameWords "java/lang/System" "arraycopy" 5 + 11) ≤ Rm.locals := by rw [am_ws_eq hex r, show nativeFrameWords "java/lang/System" "arraycopy" 5 = 7 by decide +kernel]; omega
          split at h3
          rename_i kg ng kh nh hg hh
          rcases am_cond h3 with ⟨hb1, h4⟩ | ⟨hb1, h4⟩
          · skip
            rw [Bool.and_eq_true] at hb1
            obtain rfl := Nat.eq_of_beq_eq_true hb1.1
            obtain rfl := Nat.eq_of_beq_eq_true hb1.2
            obtain ⟨⟨⟨hp1, hp2, hp3⟩, hp4, hp5⟩, h5⟩ := am_grdI h4
            have hat1 := am_nth_some hg (by omega)
            have hal1 := (List.getElem?_eq_some_iff.mp hat1).1
            have hcell1 := ar_W_at (B := B) (ex := ex) (cI := cI) (cJ := cJ) (cS := cS) (I := I) (J := J) (R := R) hat1
            have hat2 := am_nth_some hh (by omega)
            have hal2 := (List.getElem?_eq_some_iff.mp hat2).1
            have hcell2 := ar_W_at (B := B) (ex := ex) (cI := cI) (cJ := cJ) (cS := cS) (I := I) (J := J) (R := R) hat2
            rw [ar_cell50] at hcell1 hcell2
            have hset : (ar_W B ex cI cJ cS (tg, I, J, R)).set a2 (B + a2, .inl (cI, nh, .inl (va_cpy (I a1) (I a2) sp.toNatClampNeg dp.toNatClampNeg x.toNatClampNeg))) = ar_W B ex cI cJ cS (tg, am_cpI I a1 a2 sp.toNatClampNeg dp.toNatClampNeg x.toNatClampNeg, J, R) := ar_W_set hat2 (by rw [ar_cell50]; refine congrArg (fun z => Sum.inl (cI, nh, Sum.inl z)) ?_; funext b; simp [am_cpI]) (fun i u hi => ar_cellCI i a1 _ _ _ u hi)
            cases h5
            rw [List.map_cons, List.map_cons, List.map_cons, List.map_cons, List.map_cons, ar_vlt (show a1 < 1000 by have : tg.length ≤ 900 := h9; omega), ar_vlt (show a2 < 1000 by have : tg.length ≤ 900 := h9; omega)]
            exact va_copyi (D := (dC, dI)) hx hb (hml.trans hls.symm) hown (hts _ (ar_in hw rfl)) (hts _ (ar_inT ar_copyW.1 rfl)) (hts _ (ar_inT ar_copyW.2.1 rfl)) (hts _ (ar_inT ar_copyW.2.2 rfl)) hK hP hD hS' a1 a2 0 0 hcell1 hcell2 rfl rfl rfl hp1 hp2 hp3 hp4 hp5 (fun _ _ => rfl) hfr.1 hroomL hdg (fun H1 locs1 hP1 _ hS1 => kM _ _ _ H1 locs1 rfl rfl (by rw [hset] at hP1; exact hP1) hS1)
          · obtain ⟨hb2, h5⟩ := am_condN h4
            rw [Bool.and_eq_true] at hb2
            obtain rfl := Nat.eq_of_beq_eq_true hb2.1
            obtain rfl := Nat.eq_of_beq_eq_true hb2.2
            obtain ⟨⟨⟨hp1, hp2, hp3⟩, hp4, hp5⟩, h5⟩ := am_grdI h5
            have hat1 := am_nth_some hg (by omega)
            have hal1 := (List.getElem?_eq_some_iff.mp hat1).1
            have hcell1 := ar_W_at (B := B) (ex := ex) (cI := cI) (cJ := cJ) (cS := cS) (I := I) (J := J) (R := R) hat1
            have hat2 := am_nth_some hh (by omega)
            have hal2 := (List.getElem?_eq_some_iff.mp hat2).1
            have hcell2 := ar_W_at (B := B) (ex := ex) (cI := cI) (cJ := cJ) (cS := cS) (I := I) (J := J) (R := R) hat2
            rw [ar_cell51] at hcell1 hcell2
            have hset : (ar_W B ex cI cJ cS (tg, I, J, R)).set a2 (B + a2, .inl (cJ, nh, .inr (.inl (va_cpy (J a1) (J a2) sp.toNatClampNeg dp.toNatClampNeg x.toNatClampNeg)))) = ar_W B ex cI cJ cS (tg, I, am_cpJ J a1 a2 sp.toNatClampNeg dp.toNatClampNeg x.toNatClampNeg, R) := ar_W_set hat2 (by rw [ar_cell51]; refine congrArg (fun z => Sum.inl (cJ, nh, Sum.inr (Sum.inl z))) ?_; funext b; simp [am_cpJ]) (fun i u hi => ar_cellCJ i a1 _ _ _ u hi)
            cases h5
            rw [List.map_cons, List.map_cons, List.map_cons, List.map_cons, List.map_cons, ar_vlt (show a1 < 1000 by have : tg.length ≤ 900 := h9; omega), ar_vlt (show a2 < 1000 by have : tg.length ≤ 900 := h9; omega)]
            exact va_copyl (D := (dC, dI)) hx hb (hml.trans hls.symm) hown (hts _ (ar_in hw rfl)) (hts _ (ar_inT ar_copyW.1 rfl)) (hts _ (ar_inT ar_copyW.2.1 rfl)) (hts _ (ar_inT ar_copyW.2.2 rfl)) hK hP hD hS' a1 a2 1 1 hcell1 hcell2 rfl rfl rfl hp1 hp2 hp3 hp4 hp5 (fun _ _ => rfl) hfr.1 hroomL hdg (fun H1 locs1 hP1 _ hS1 => kM _ _ _ H1 locs1 rfl rfl (by rw [hset] at hP1; exact hP1) hS1)
        · cases h2
      · rcases am_inv2_inl h2 with ⟨rfl, -⟩ | ⟨a, b, hxa, ⟨rfl, hc⟩ | ⟨rfl, hc⟩⟩
        · simp only [show Nat.beq 3 6 = false from rfl, show Nat.beq 3 8 = false from rfl, show Nat.beq 3 9 = false from rfl, cond_false, Bool.and_eq_true, decide_eq_true_eq] at hck
          omega
        · simp only [show Nat.beq 8 6 = false from rfl, show Nat.beq 8 8 = true from rfl, cond_false, cond_true, Bool.and_eq_true, decide_eq_true_eq] at hck
          obtain ⟨⟨rfl, -⟩, hw⟩ := hck
          obtain rfl : n = 3 := by omega
          obtain rfl : xs = [.int b, .int a] := by rw [← List.reverse_reverse xs, hxa]; rfl
          cases hc
          exact va_mmax hx hb (hml.trans hls.symm) hown (hts _ (ar_in hw rfl)) (hts _ (ar_inT ar_mathW.1.1 rfl)) (hts _ (ar_inT ar_mathW.2.2 rfl)) (hts _ (ar_inT ar_mathW.1.2 rfl)) hfr.1 (by have h := am_ws_eq (B := B) hex rest; show ((rest.map (ar_v B ex)).map fun v => v.category).sum + 13 ≤ _; omega) (Nat.le_trans (Nat.le_add_right _ _) hroom.1) (Nat.le_trans (Nat.le_add_right _ _) hroom.2) hdg (kS rfl rfl)
        · simp only [show Nat.beq 9 6 = false from rfl, show Nat.beq 9 8 = false from rfl, cond_false, cond_true, Bool.and_eq_true, decide_eq_true_eq] at hck
          rw [show Nat.beq 9 9 = true from rfl] at hck
          simp only [cond_true, Bool.and_eq_true, decide_eq_true_eq] at hck
          obtain ⟨⟨rfl, -⟩, hw⟩ := hck
          obtain rfl : n = 3 := by omega
          obtain rfl : xs = [.int b, .int a] := by rw [← List.reverse_reverse xs, hxa]; rfl
          cases hc
          exact va_mmin hx hb (hml.trans hls.symm) hown (hts _ (ar_in hw rfl)) (hts _ (ar_inT ar_mathW.2.1.1 rfl)) (hts _ (ar_inT ar_mathW.2.2 rfl)) (hts _ (ar_inT ar_mathW.2.1.2 rfl)) hfr.1 (by have h := am_ws_eq (B := B) hex rest; show ((rest.map (ar_v B ex)).map fun v => v.category).sum + 13 ≤ _; omega) (Nat.le_trans (Nat.le_add_right _ _) hroom.1) (Nat.le_trans (Nat.le_add_right _ _) hroom.2) hdg (kS rfl rfl)
    · cases hck
  · unfold am_ret at hs
    split at hs
    · cases hs
    · obtain ⟨_, h⟩ := am_grdI hs
      cases h
    · obtain ⟨_, h⟩ := am_grdI hs
      cases h
    · obtain ⟨_, h⟩ := am_grdI hs
      cases h
    · cases hs
  · split at hs <;> cases hs
  · split at hs <;> cases hs
  · split at hs <;> cases hs
  · cases hs
