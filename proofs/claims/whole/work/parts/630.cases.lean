/-! THE LAW'S CASES: what each instruction is, what each call answers -/
def lw_tgs : List Nat := [224, 267, 340, 403, 437, 470, 493, 526, 569, 602, 635, 668, 701, 724, 737, 760, 793, 816, 829, 852, 875, 908, 941, 964, 997, 1030, 1083, 1116, 1129, 1152, 1175, 1188, 1211, 1264, 1297, 1310, 1323, 1356, 1379, 1402, 1445, 1468, 1481, 1494]
theorem lw_rn_row {t : Nat} {I : am_mI} {J : am_mJ} {A : am_mI} {K : am_mJ} (h : am_Iv t I J A K) (ht : t + 20000 ≤ 61440000) (xs : Nat → Int32) (i : Nat) : lw_Rn nX7_row nX8_row (lw_as xs 3 (i + 1)) I J A K (t + 20000) := by
  obtain ⟨r, I', J', A', K', h1, h2, hv⟩ := op_row h (xs (i + 1)) (xs (i + 1 + 1)) (xs (i + 1 + 1 + 1))
  exact ⟨2, 1, r, I', J', A', K', by decide, by decide, axX7_row h1, axX8_row h2, hv⟩
theorem lw_rn_copy {t : Nat} {I : am_mI} {J : am_mJ} {A : am_mI} {K : am_mJ} (h : am_Iv t I J A K) (ht : t + 20000 ≤ 61440000) (xs : Nat → Int32) (i : Nat) : lw_Rn nX7_copy nX8_copy (lw_as xs 5 (i + 1)) I J A K (t + 20000) := by
  obtain ⟨r, I', J', A', K', h1, h2, hv⟩ := op_copy h (xs (i + 1)) (xs (i + 1 + 1)) (xs (i + 1 + 1 + 1)) (xs (i + 1 + 1 + 1 + 1)) (xs (i + 1 + 1 + 1 + 1 + 1))
  exact ⟨2, 1, r, I', J', A', K', by decide, by decide, axX7_copy h1, axX8_copy h2, hv⟩
theorem lw_rn_show {t : Nat} {I : am_mI} {J : am_mJ} {A : am_mI} {K : am_mJ} (h : am_Iv t I J A K) (ht : t + 20000 ≤ 61440000) (xs : Nat → Int32) (i : Nat) : lw_Rn nX7_show nX8_show (lw_as xs 2 (i + 1)) I J A K (t + 20000) := by
  obtain ⟨r, I', J', A', K', h1, h2, hv⟩ := op_show h (xs (i + 1)) (xs (i + 1 + 1))
  exact ⟨1, 1, r, I', J', A', K', by decide, by decide, axX7_show h1, axX8_show h2, hv⟩
theorem lw_rn_holds {t : Nat} {I : am_mI} {J : am_mJ} {A : am_mI} {K : am_mJ} (h : am_Iv t I J A K) (ht : t + 20000 ≤ 61440000) (xs : Nat → Int32) (i : Nat) : lw_Rn nX7_holds nX8_holds (lw_as xs 1 (i + 1)) I J A K (t + 20000) := by
  exact ⟨3, 1, _, I, J, A, K, by decide, by decide, axX7_holds rfl, axX8_holds (op_holds h _), h.more (by omega)⟩
theorem lw_rn_says {t : Nat} {I : am_mI} {J : am_mJ} {A : am_mI} {K : am_mJ} (h : am_Iv t I J A K) (ht : t + 20000 ≤ 61440000) (xs : Nat → Int32) (i : Nat) : lw_Rn nX7_says nX8_says (lw_as xs 2 (i + 1)) I J A K (t + 20000) := by
  obtain ⟨r, I', J', A', K', h1, h2, hv⟩ := op_says h (xs (i + 1)) (xs (i + 1 + 1))
  exact ⟨3, 2, r, I', J', A', K', by decide, by decide, axX7_says h1, axX8_says h2, hv⟩
theorem lw_rn_stuff {t : Nat} {I : am_mI} {J : am_mJ} {A : am_mI} {K : am_mJ} (h : am_Iv t I J A K) (ht : t + 20000 ≤ 61440000) (xs : Nat → Int32) (i : Nat) : lw_Rn nX7_stuff nX8_stuff (lw_as xs 3 (i + 1)) I J A K (t + 20000) := by
  obtain ⟨r, I', J', A', K', h1, h2, hv⟩ := op_stuff h (xs (i + 1)) (xs (i + 1 + 1)) (xs (i + 1 + 1 + 1))
  exact ⟨2, 1, r, I', J', A', K', by decide, by decide, axX7_stuff h1, axX8_stuff h2, hv⟩
theorem lw_rn_stuffOf {t : Nat} {I : am_mI} {J : am_mJ} {A : am_mI} {K : am_mJ} (h : am_Iv t I J A K) (ht : t + 20000 ≤ 61440000) (xs : Nat → Int32) (i : Nat) : lw_Rn nX7_stuffOf nX8_stuffOf (lw_as xs 2 (i + 1)) I J A K (t + 20000) := by
  obtain ⟨r, I', J', A', K', h1, h2, hv⟩ := op_stuffOf h (xs (i + 1)) (xs (i + 1 + 1))
  exact ⟨2, 1, r, I', J', A', K', by decide, by decide, axX7_stuffOf h1, axX8_stuffOf h2, hv⟩
theorem lw_rn_cell {t : Nat} {I : am_mI} {J : am_mJ} {A : am_mI} {K : am_mJ} (h : am_Iv t I J A K) (ht : t + 20000 ≤ 61440000) (xs : Nat → Int32) (i : Nat) : lw_Rn nX7_cell nX8_cell (lw_as xs 2 (i + 1)) I J A K (t + 20000) := by
  obtain ⟨r, I', J', A', K', h1, h2, hv⟩ := op_cell h (xs (i + 1)) (xs (i + 1 + 1))
  exact ⟨2, 1, r, I', J', A', K', by decide, by decide, axX7_cell h1, axX8_cell h2, hv⟩
theorem lw_rn_cellOf {t : Nat} {I : am_mI} {J : am_mJ} {A : am_mI} {K : am_mJ} (h : am_Iv t I J A K) (ht : t + 20000 ≤ 61440000) (xs : Nat → Int32) (i : Nat) : lw_Rn nX7_cellOf nX8_cellOf (lw_as xs 2 (i + 1)) I J A K (t + 20000) := by
  obtain ⟨r, I', J', A', K', h1, h2, hv⟩ := op_cellOf h (xs (i + 1)) (xs (i + 1 + 1))
  exact ⟨2, 1, r, I', J', A', K', by decide, by decide, axX7_cellOf h1, axX8_cellOf h2, hv⟩
theorem lw_rn_plan {t : Nat} {I : am_mI} {J : am_mJ} {A : am_mI} {K : am_mJ} (h : am_Iv t I J A K) (ht : t + 20000 ≤ 61440000) (xs : Nat → Int32) (i : Nat) : lw_Rn nX7_plan nX8_plan (lw_as xs 2 (i + 1)) I J A K (t + 20000) := by
  obtain ⟨r, I', J', A', K', h1, h2, hv⟩ := op_plan h (xs (i + 1)) (xs (i + 1 + 1))
  exact ⟨2, 1, r, I', J', A', K', by decide, by decide, axX7_plan h1, axX8_plan h2, hv⟩
theorem lw_rn_village {t : Nat} {I : am_mI} {J : am_mJ} {A : am_mI} {K : am_mJ} (h : am_Iv t I J A K) (ht : t + 20000 ≤ 61440000) (xs : Nat → Int32) (i : Nat) : lw_Rn nX7_village nX8_village (lw_as xs 1 (i + 1)) I J A K (t + 20000) := by
  obtain ⟨r, I', J', A', K', h1, h2, hv⟩ := op_village h (by omega) (xs (i + 1))
  exact ⟨8, 3, r, I', J', A', K', by decide, by decide, axX7_village h1, axX8_village h2, hv⟩
theorem lw_rn_fault {t : Nat} {I : am_mI} {J : am_mJ} {A : am_mI} {K : am_mJ} (h : am_Iv t I J A K) (ht : t + 20000 ≤ 61440000) (xs : Nat → Int32) (i : Nat) : lw_Rn nX7_fault nX8_fault (lw_as xs 0 (i + 1)) I J A K (t + 20000) := by
  exact ⟨0, 0, _, I, J, A, K, by decide, by decide, axX7_fault rfl, axX8_fault (op_fault h).symm, h.more (by omega)⟩
theorem lw_rn_may {t : Nat} {I : am_mI} {J : am_mJ} {A : am_mI} {K : am_mJ} (h : am_Iv t I J A K) (ht : t + 20000 ≤ 61440000) (xs : Nat → Int32) (i : Nat) : lw_Rn nX7_may nX8_may (lw_as xs 1 (i + 1)) I J A K (t + 20000) := by
  obtain ⟨r, I', J', A', K', h1, h2, hv⟩ := op_may h (xs (i + 1))
  exact ⟨3, 1, r, I', J', A', K', by decide, by decide, axX7_may h1, axX8_may h2, hv⟩
theorem lw_rn_lay {t : Nat} {I : am_mI} {J : am_mJ} {A : am_mI} {K : am_mJ} (h : am_Iv t I J A K) (ht : t + 20000 ≤ 61440000) (xs : Nat → Int32) (i : Nat) : lw_Rn nX7_lay nX8_lay (lw_as xs 2 (i + 1)) I J A K (t + 20000) := by
  obtain ⟨r, I', J', A', K', h1, h2, hv⟩ := op_lay h (xs (i + 1)) (xs (i + 1 + 1))
  exact ⟨3, 2, r, I', J', A', K', by decide, by decide, axX7_lay h1, axX8_lay h2, hv⟩
theorem lw_rn_strip {t : Nat} {I : am_mI} {J : am_mJ} {A : am_mI} {K : am_mJ} (h : am_Iv t I J A K) (ht : t + 20000 ≤ 61440000) (xs : Nat → Int32) (i : Nat) : lw_Rn nX7_strip nX8_strip (lw_as xs 1 (i + 1)) I J A K (t + 20000) := by
  obtain ⟨r, I', J', A', K', h1, h2, hv⟩ := op_strip h (xs (i + 1))
  exact ⟨3, 1, r, I', J', A', K', by decide, by decide, axX7_strip h1, axX8_strip h2, hv⟩
theorem lw_rn_spray {t : Nat} {I : am_mI} {J : am_mJ} {A : am_mI} {K : am_mJ} (h : am_Iv t I J A K) (ht : t + 20000 ≤ 61440000) (xs : Nat → Int32) (i : Nat) : lw_Rn nX7_spray nX8_spray (lw_as xs 0 (i + 1)) I J A K (t + 20000) := by
  obtain ⟨r, I', J', A', K', h1, h2, hv⟩ := op_spray (by omega) h
  exact ⟨2, 0, r, I', J', A', K', by decide, by decide, axX7_spray h1, axX8_spray h2, hv⟩
theorem lw_rn_side {t : Nat} {I : am_mI} {J : am_mJ} {A : am_mI} {K : am_mJ} (h : am_Iv t I J A K) (ht : t + 20000 ≤ 61440000) (xs : Nat → Int32) (i : Nat) : lw_Rn nX7_side nX8_side (lw_as xs 1 (i + 1)) I J A K (t + 20000) := by
  obtain ⟨r, I', J', A', K', h1, h2, hv⟩ := op_side h (xs (i + 1))
  exact ⟨1, 1, r, I', J', A', K', by decide, by decide, axX7_side h1, axX8_side h2, hv⟩
theorem lw_rn_hours {t : Nat} {I : am_mI} {J : am_mJ} {A : am_mI} {K : am_mJ} (h : am_Iv t I J A K) (ht : t + 20000 ≤ 61440000) (xs : Nat → Int32) (i : Nat) : lw_Rn nX7_hours nX8_hours (lw_as xs 1 (i + 1)) I J A K (t + 20000) := by
  obtain ⟨r, I', J', A', K', h1, h2, hv⟩ := op_hours h (by omega) (xs (i + 1))
  exact ⟨3, 2, r, I', J', A', K', by decide, by decide, axX7_hours h1, axX8_hours h2, hv⟩
theorem lw_rn_fresh {t : Nat} {I : am_mI} {J : am_mJ} {A : am_mI} {K : am_mJ} (h : am_Iv t I J A K) (ht : t + 20000 ≤ 61440000) (xs : Nat → Int32) (i : Nat) : lw_Rn nX7_fresh nX8_fresh (lw_as xs 2 (i + 1)) I J A K (t + 20000) := by
  obtain ⟨r, I', J', A', K', h1, h2, hv⟩ := op_fresh h (by omega) (xs (i + 1)) (xs (i + 1 + 1))
  exact ⟨3, 3, r, I', J', A', K', by decide, by decide, axX7_fresh h1, axX8_fresh h2, hv⟩
theorem lw_rn_beauty {t : Nat} {I : am_mI} {J : am_mJ} {A : am_mI} {K : am_mJ} (h : am_Iv t I J A K) (ht : t + 20000 ≤ 61440000) (xs : Nat → Int32) (i : Nat) : lw_Rn nX7_beauty nX8_beauty (lw_as xs 2 (i + 1)) I J A K (t + 20000) := by
  obtain ⟨r, I', J', A', K', h1, h2, hv⟩ := op_beauty h (by omega) (xs (i + 1)) (xs (i + 1 + 1))
  exact ⟨4, 4, r, I', J', A', K', by decide, by decide, axX7_beauty h1, axX8_beauty h2, hv⟩
theorem lw_rn_looks {t : Nat} {I : am_mI} {J : am_mJ} {A : am_mI} {K : am_mJ} (h : am_Iv t I J A K) (ht : t + 20000 ≤ 61440000) (xs : Nat → Int32) (i : Nat) : lw_Rn nX7_looks nX8_looks (lw_as xs 1 (i + 1)) I J A K (t + 20000) := by
  obtain ⟨r, I', J', A', K', h1, h2, hv⟩ := op_looks h (by omega) (xs (i + 1))
  exact ⟨4, 5, r, I', J', A', K', by decide, by decide, axX7_looks h1, axX8_looks h2, hv⟩
theorem lw_rn_worst {t : Nat} {I : am_mI} {J : am_mJ} {A : am_mI} {K : am_mJ} (h : am_Iv t I J A K) (ht : t + 20000 ≤ 61440000) (xs : Nat → Int32) (i : Nat) : lw_Rn nX7_worst nX8_worst (lw_as xs 2 (i + 1)) I J A K (t + 20000) := by
  obtain ⟨r, I', J', A', K', h1, h2, hv⟩ := op_worst h (by omega) (xs (i + 1)) (xs (i + 1 + 1))
  exact ⟨5, 5, r, I', J', A', K', by decide, by decide, axX7_worst h1, axX8_worst h2, hv⟩
theorem lw_rn_all {t : Nat} {I : am_mI} {J : am_mJ} {A : am_mI} {K : am_mJ} (h : am_Iv t I J A K) (ht : t + 20000 ≤ 61440000) (xs : Nat → Int32) (i : Nat) : lw_Rn nX7_all nX8_all (lw_as xs 2 (i + 1)) I J A K (t + 20000) := by
  obtain ⟨r, I', J', A', K', h1, h2, hv⟩ := op_all h (by omega) (xs (i + 1)) (xs (i + 1 + 1))
  exact ⟨5, 6, r, I', J', A', K', by decide, by decide, axX7_all h1, axX8_all h2, hv⟩
theorem lw_rn_best {t : Nat} {I : am_mI} {J : am_mJ} {A : am_mI} {K : am_mJ} (h : am_Iv t I J A K) (ht : t + 20000 ≤ 61440000) (xs : Nat → Int32) (i : Nat) : lw_Rn nX7_best nX8_best (lw_as xs 4 (i + 1)) I J A K (t + 20000) := by
  obtain ⟨r, I', J', A', K', h1, h2, hv⟩ := op_best h (xs (i + 1)) (xs (i + 1 + 1)) (xs (i + 1 + 1 + 1)) (xs (i + 1 + 1 + 1 + 1))
  exact ⟨4, 2, r, I', J', A', K', by decide, by decide, axX7_best h1, axX8_best h2, hv⟩
theorem lw_rn_turn {t : Nat} {I : am_mI} {J : am_mJ} {A : am_mI} {K : am_mJ} (h : am_Iv t I J A K) (ht : t + 20000 ≤ 61440000) (xs : Nat → Int32) (i : Nat) : lw_Rn nX7_turn nX8_turn (lw_as xs 2 (i + 1)) I J A K (t + 20000) := by
  obtain ⟨r, I', J', A', K', h1, h2, hv⟩ := op_turn h (by omega) (xs (i + 1)) (xs (i + 1 + 1))
  exact ⟨6, 6, r, I', J', A', K', by decide, by decide, axX7_turn h1, axX8_turn h2, hv⟩
theorem lw_rn_next {t : Nat} {I : am_mI} {J : am_mJ} {A : am_mI} {K : am_mJ} (h : am_Iv t I J A K) (ht : t + 20000 ≤ 61440000) (xs : Nat → Int32) (i : Nat) : lw_Rn nX7_next nX8_next (lw_as xs 0 (i + 1)) I J A K (t + 20000) := by
  obtain ⟨r, h1, h2⟩ := op_next h
  exact ⟨4, 1, r, I, J, A, K, by decide, by decide, axX7_next h1, axX8_next h2, h.more (by omega)⟩
theorem lw_rn_done {t : Nat} {I : am_mI} {J : am_mJ} {A : am_mI} {K : am_mJ} (h : am_Iv t I J A K) (ht : t + 20000 ≤ 61440000) (xs : Nat → Int32) (i : Nat) : lw_Rn nX7_done nX8_done (lw_as xs 1 (i + 1)) I J A K (t + 20000) := by
  obtain ⟨r, I', J', A', K', h1, h2, hv⟩ := op_done h (xs (i + 1))
  exact ⟨6, 3, r, I', J', A', K', by decide, by decide, axX7_done h1, axX8_done h2, hv⟩
theorem lw_rn_women {t : Nat} {I : am_mI} {J : am_mJ} {A : am_mI} {K : am_mJ} (h : am_Iv t I J A K) (ht : t + 20000 ≤ 61440000) (xs : Nat → Int32) (i : Nat) : lw_Rn nX7_women nX8_women (lw_as xs 1 (i + 1)) I J A K (t + 20000) := by
  obtain ⟨r, I', J', A', K', h1, h2, hv⟩ := op_women h (xs (i + 1))
  exact ⟨6, 3, r, I', J', A', K', by decide, by decide, axX7_women h1, axX8_women h2, hv⟩
theorem lw_rn_dry {t : Nat} {I : am_mI} {J : am_mJ} {A : am_mI} {K : am_mJ} (h : am_Iv t I J A K) (ht : t + 20000 ≤ 61440000) (xs : Nat → Int32) (i : Nat) : lw_Rn nX7_dry nX8_dry (lw_as xs 0 (i + 1)) I J A K (t + 20000) := by
  obtain ⟨r, h1, h2⟩ := op_dry h
  exact ⟨2, 1, r, I, J, A, K, by decide, by decide, axX7_dry h1, axX8_dry h2, h.more (by omega)⟩
theorem lw_rn_sprayings {t : Nat} {I : am_mI} {J : am_mJ} {A : am_mI} {K : am_mJ} (h : am_Iv t I J A K) (ht : t + 20000 ≤ 61440000) (xs : Nat → Int32) (i : Nat) : lw_Rn nX7_sprayings nX8_sprayings (lw_as xs 1 (i + 1)) I J A K (t + 20000) := by
  obtain ⟨r, I', J', A', K', h1, h2, hv⟩ := op_sprayings h (xs (i + 1))
  exact ⟨2, 1, r, I', J', A', K', by decide, by decide, axX7_sprayings h1, axX8_sprayings h2, hv⟩
theorem lw_rn_was {t : Nat} {I : am_mI} {J : am_mJ} {A : am_mI} {K : am_mJ} (h : am_Iv t I J A K) (ht : t + 20000 ≤ 61440000) (xs : Nat → Int32) (i : Nat) : lw_Rn nX7_was nX8_was (lw_as xs 4 (i + 1)) I J A K (t + 20000) := by
  obtain ⟨r, I', J', A', K', h1, h2, hv⟩ := op_was h (xs (i + 1)) (xs (i + 1 + 1)) (xs (i + 1 + 1 + 1)) (xs (i + 1 + 1 + 1 + 1))
  exact ⟨3, 2, r, I', J', A', K', by decide, by decide, axX7_was h1, axX8_was h2, hv⟩
theorem lw_rn_age {t : Nat} {I : am_mI} {J : am_mJ} {A : am_mI} {K : am_mJ} (h : am_Iv t I J A K) (ht : t + 20000 ≤ 61440000) (xs : Nat → Int32) (i : Nat) : lw_Rn nX7_age nX8_age (lw_as xs 2 (i + 1)) I J A K (t + 20000) := by
  obtain ⟨r, I', J', A', K', h1, h2, hv⟩ := op_age h (by omega) (xs (i + 1)) (xs (i + 1 + 1))
  exact ⟨5, 3, r, I', J', A', K', by decide, by decide, axX7_age h1, axX8_age h2, hv⟩
theorem lw_rn_lacking {t : Nat} {I : am_mI} {J : am_mJ} {A : am_mI} {K : am_mJ} (h : am_Iv t I J A K) (ht : t + 20000 ≤ 61440000) (xs : Nat → Int32) (i : Nat) : lw_Rn nX7_lacking nX8_lacking (lw_as xs 0 (i + 1)) I J A K (t + 20000) := by
  obtain ⟨r, h1, h2⟩ := op_lacking h
  exact ⟨3, 0, r, I, J, A, K, by decide, by decide, axX7_lacking h1, axX8_lacking h2, h.more (by omega)⟩
theorem lw_rn_wrong {t : Nat} {I : am_mI} {J : am_mJ} {A : am_mI} {K : am_mJ} (h : am_Iv t I J A K) (ht : t + 20000 ≤ 61440000) (xs : Nat → Int32) (i : Nat) : lw_Rn nX7_wrong nX8_wrong (lw_as xs 0 (i + 1)) I J A K (t + 20000) := by
  obtain ⟨r, h1, h2⟩ := op_wrong h
  exact ⟨4, 0, r, I, J, A, K, by decide, by decide, axX7_wrong h1, axX8_wrong h2, h.more (by omega)⟩
theorem lw_rn_judge {t : Nat} {I : am_mI} {J : am_mJ} {A : am_mI} {K : am_mJ} (h : am_Iv t I J A K) (ht : t + 20000 ≤ 61440000) (xs : Nat → Int32) (i : Nat) : lw_Rn nX7_judge nX8_judge (lw_as xs 2 (i + 1)) I J A K (t + 20000) := by
  obtain ⟨r, I', J', A', K', h1, h2, hv⟩ := op_judge h (xs (i + 1)) (xs (i + 1 + 1))
  exact ⟨4, 3, r, I', J', A', K', by decide, by decide, axX7_judge h1, axX8_judge h2, hv⟩
theorem lw_rn_days {t : Nat} {I : am_mI} {J : am_mJ} {A : am_mI} {K : am_mJ} (h : am_Iv t I J A K) (ht : t + 20000 ≤ 61440000) (xs : Nat → Int32) (i : Nat) : lw_Rn nX7_days nX8_days (lw_as xs 1 (i + 1)) I J A K (t + 20000) := by
  obtain ⟨r, I', J', A', K', h1, h2, hv⟩ := op_days h (by omega) (xs (i + 1))
  exact ⟨4, 2, r, I', J', A', K', by decide, by decide, axX7_days h1, axX8_days h2, hv⟩
theorem lw_rn_seed {t : Nat} {I : am_mI} {J : am_mJ} {A : am_mI} {K : am_mJ} (h : am_Iv t I J A K) (ht : t + 20000 ≤ 61440000) (xs : Nat → Int32) (i : Nat) : lw_Rn nX7_seed nX8_seed (lw_as xs 1 (i + 1)) I J A K (t + 20000) := by
  obtain ⟨r, I', J', A', K', h1, h2, hv⟩ := op_seed h (xs (i + 1))
  exact ⟨1, 0, r, I', J', A', K', by decide, by decide, axX7_seed h1, axX8_seed h2, hv⟩
theorem lw_rn_act {t : Nat} {I : am_mI} {J : am_mJ} {A : am_mI} {K : am_mJ} (h : am_Iv t I J A K) (ht : t + 20000 ≤ 61440000) (xs : Nat → Int32) (i : Nat) : lw_Rn nX7_act nX8_act (lw_as xs 3 (i + 1)) I J A K (t + 20000) := by
  obtain ⟨r, I', J', A', K', h1, h2, hv⟩ := op_act h (xs (i + 1)) (xs (i + 1 + 1)) (xs (i + 1 + 1 + 1))
  exact ⟨49, 4, r, I', J', A', K', by decide, by decide, axX7_act h1, axX8_act h2, hv⟩
theorem lw_rn_trace {t : Nat} {I : am_mI} {J : am_mJ} {A : am_mI} {K : am_mJ} (h : am_Iv t I J A K) (ht : t + 20000 ≤ 61440000) (xs : Nat → Int32) (i : Nat) : lw_Rn nX7_trace nX8_trace (lw_as xs 1 (i + 1)) I J A K (t + 20000) := by
  obtain ⟨r, h1, h2⟩ := op_trace h (xs (i + 1))
  exact ⟨1, 0, r, I, J, A, K, by decide, by decide, axX7_trace h1, axX8_trace h2, h.more (by omega)⟩
theorem lw_rn_image {t : Nat} {I : am_mI} {J : am_mJ} {A : am_mI} {K : am_mJ} (h : am_Iv t I J A K) (ht : t + 20000 ≤ 61440000) (xs : Nat → Int32) (i : Nat) : lw_Rn nX7_image nX8_image (lw_as xs 0 (i + 1)) I J A K (t + 20000) := by
  obtain ⟨r, I', J', A', K', h1, h2, hv⟩ := op_image h
  exact ⟨1, 2, r, I', J', A', K', by decide, by decide, axX7_image h1, axX8_image h2, hv⟩
theorem lw_rn_restore {t : Nat} {I : am_mI} {J : am_mJ} {A : am_mI} {K : am_mJ} (h : am_Iv t I J A K) (ht : t + 20000 ≤ 61440000) (xs : Nat → Int32) (i : Nat) : lw_Rn nX7_restore nX8_restore (lw_as xs 0 (i + 1)) I J A K (t + 20000) := by
  obtain ⟨r, I', J', A', K', h1, h2, hv⟩ := op_restore h
  exact ⟨2, 2, r, I', J', A', K', by decide, by decide, axX7_restore h1, axX8_restore h2, hv⟩
theorem lw_rn_status {t : Nat} {I : am_mI} {J : am_mJ} {A : am_mI} {K : am_mJ} (h : am_Iv t I J A K) (ht : t + 20000 ≤ 61440000) (xs : Nat → Int32) (i : Nat) : lw_Rn nX7_status nX8_status (lw_as xs 1 (i + 1)) I J A K (t + 20000) := by
  obtain ⟨r, h1, h2⟩ := op_status h (xs (i + 1))
  exact ⟨2, 2, r, I, J, A, K, by decide, by decide, axX7_status h1, axX8_status h2, h.more (by omega)⟩
