/-! SENTENCES: a row's elements -/
theorem am_upJ_yes {J : am_mJ} {h k : Nat} {v : Int64} : am_upJ J h k v h k = v := if_pos ⟨rfl, rfl⟩
theorem am_upJ_no {J : am_mJ} {h k b : Nat} {v : Int64} (n : b ≠ k) : am_upJ J h k v h b = J h b := if_neg (fun q => n q.2)
theorem am_upJ_ne {J : am_mJ} {h k a : Nat} {v : Int64} (n : a ≠ h) : am_upJ J h k v a = J a := by
  funext b
  exact if_neg (fun q => n q.1)
theorem am_Iv.elem {t : Nat} {I : am_mI} {J : am_mJ} {A : am_mI} {B : am_mJ} (h : am_Iv t I J A B) {s : Nat} (hs : s < 8) {k : Nat} (hk : k < 160) (v : Int64) : am_Iv t I (am_upJ J (42 + 2 * s) k v) A (am_upJ B 15 (160 * s + k) v) := by
  refine h.shelf hs (fun _ _ => rfl) (fun k hk => am_upJ_ne hk) (fun _ _ _ _ _ => rfl) (fun _ _ => ⟨rfl, rfl, rfl, rfl⟩) (fun u hu q i hi => am_upJ_no (by omega)) ?_ (h.st s hs)
  obtain ⟨c1, c2, c3, c4, c5, c6, c7, c8, c9, c10⟩ := h.sh s hs
  refine ⟨c1, c2, c3, c4, c5, c6, c7, c8, c9, fun i hi => ?_⟩
  by_cases q : i = k
  · rw [q, am_upJ_yes, am_upJ_yes]
  · rw [am_upJ_no q, am_upJ_no (by omega)]
    exact c10 i hi
theorem op_set {t : Nat} {I : am_mI} {J : am_mJ} {A : am_mI} {B : am_mJ} (h : am_Iv t I J A B) (a i : Int32) (v : Int64) : am_Tw (t + 20000) (DX7_set I J a i v) (DX8_set A B a i v) := by
  unfold DX7_set DX8_set
  have q0 : (0 : Int32).toInt = 0 := rfl
  have q160 : (160 : Int32).toInt = 160 := rfl
  rcases shelf_in a with ⟨h1, h2⟩ | ⟨s, hs, e1, e2, h1, h2, h3⟩
  · rw [if_pos h1, if_neg (fun q => q h2)]
    exact .no1 h
  · have z : ¬ DX7_shelfAt a = 0 := by omega
    rw [if_neg z, if_pos h2, h1]
    simp only [if_pos h3]
    rw [e1]
    obtain ⟨c1, c2, c3, c4, c5, c6, c7, c8, c9, c10⟩ := h.sh s hs
    rcases c6 with q | q | q
    · have tr : DX3_rowTrouble I (41 + 2 * s) = -3 := by
        unfold DX3_rowTrouble DX3_holdsStuff DX3_holdsRow
        rw [c1, q]
        rfl
      rw [tr, if_neg (by decide), if_pos (show ¬ A 11 s = 2 by rw [q]; decide), if_neg (show ¬ ¬ A 11 s = 0 by rw [q]; exact fun f => f rfl)]
      exact .no3 h
    · have tr : DX3_rowTrouble I (41 + 2 * s) = 0 := by
        unfold DX3_rowTrouble DX3_holdsStuff DX3_holdsRow
        rw [c1, q]
        rfl
      rw [tr, if_pos rfl, if_pos (show ¬ A 11 s = 2 by rw [q]; decide), if_pos (show ¬ A 11 s = 0 by rw [q]; decide)]
      unfold DX3_put DX3_hasElement
      rw [c3 q]
      by_cases i0 : i < 0
      · rw [if_pos i0, if_pos i0, if_neg (fun f => f rfl)]
        exact .no5 h
      · rw [if_neg i0, if_neg i0]
        by_cases i1 : i < A 13 s
        · have j0 := i0
          have j1 := i1
          rw [Int32.lt_iff_toInt_lt] at j0 j1
          have k0 : ¬ A 13 s ≤ i := by
            rw [Int32.le_iff_toInt_le]
            omega
          have k1 : ¬ (160 : Int32) ≤ i := by
            rw [Int32.le_iff_toInt_le]
            omega
          have e9 : i.toNatClampNeg = i.toInt.toNat := rfl
          have k2 : ¬ (i < 0 ∨ 160 ≤ i.toNatClampNeg) := by
            rintro (f | f)
            · exact i0 f
            · omega
          obtain ⟨x1, x2⟩ := shelf_ix (i := i) hs e2 (by omega) (by omega)
          rw [if_pos i1, if_neg k0, if_neg k1, if_pos (show ¬ (1 : Int32) = 0 by decide), if_neg (show ¬ (1 : Int32) = 0 by decide), if_pos k2]
          simp only [if_pos x1, Option.bind_some]
          rw [x2, show 41 + 2 * s + 1 = 42 + 2 * s by omega]
          unfold DX3_cut
          rw [c2]
          by_cases s0 : A 12 s = 0
          · rw [if_pos s0, if_neg (fun f => f s0)]
            exact .mk1 (h.elem hs (by omega) _)
          · rw [if_neg s0, if_pos s0]
            by_cases s1 : A 12 s = 1
            · rw [if_pos s1, if_neg (fun f => f s1)]
              exact .mk1 (h.elem hs (by omega) _)
            · rw [if_neg s1, if_pos s1]
              by_cases s2 : A 12 s = 2
              · rw [if_pos s2, if_neg (fun f => f s2)]
                exact .mk1 (h.elem hs (by omega) _)
              · rw [if_neg s2, if_pos s2]
                exact .mk1 (h.elem hs (by omega) _)
        · have k0 : A 13 s ≤ i := by
            rw [Int32.lt_iff_toInt_lt] at i1
            rw [Int32.le_iff_toInt_le]
            omega
          rw [if_neg i1, if_pos k0, if_neg (fun f => f rfl)]
          exact .no5 h
    · have tr : DX3_rowTrouble I (41 + 2 * s) = -2 := by
        unfold DX3_rowTrouble DX3_holdsStuff DX3_holdsRow
        rw [c1, q]
        rfl
      rw [tr, if_neg (by decide), if_neg (show ¬ ¬ A 11 s = 2 by rw [q]; exact fun f => f rfl)]
      exact .no2 h
