/-! THE LAW'S LOOP -/
section LWM
variable {p : Program} {l : Launch} {e : Env} {s : State} {m : MethodId} {below : List Frame} {meth : Method} {c : Code} {b L : Nat} {xs : Nat → Int32} {ex : Nat → Value} {cI cJ cS : ClassId} {dC : Nat → ClassId} {dI : Nat → Nat → Nat} {H : Heap} {locs : List Loc} {cells slots pc : Nat} {ls : Array Slot} {B : Nat} {Q : State → Prop}
/-- one round: whichever call the script asks for -/
theorem lw_round (C : lw_Cx p s m meth c b L xs ex cI cJ cS dC dI) (hL : L ≤ 3072) {i : Nat} (hi : i + 6 ≤ L) {t : Nat} (ht : t + 20000 ≤ 61440000) {I : am_mI} {J : am_mJ} {A : am_mI} {K : am_mJ} (hv : am_Iv t I J A K) (hSt : lw_St s ex cI cJ cS dC dI B I J A K H locs) (hl : lv_has ls 4 [(0, .ref b), (1, .ref B), (2, .ref (B + 57)), (3, .int (nI i))]) (hcells : cells ≤ 600000 ∧ slots ≤ 7302250)
    (kk : ∀ (I' : am_mI) (J' : am_mJ) (A' : am_mI) (K' : am_mJ) (H1 : Heap) (locs1 : List Loc), am_Iv (t + 20000) I' J' A' K' → lw_St s ex cI cJ cS dC dI B I' J' A' K' H1 locs1 → W p l e room_1 s m #[Value.ref b] below meth c H1 locs1 cells slots Q (F0 m 1517 ls [])) :
    ∀ n : Nat, n < 44 → W p l e room_1 s m #[Value.ref b] below meth c H locs cells slots Q (F0 m (lw_tgs.getD n 0) ls [])
  | 0, _ => lw_case C hL hi lw_d_row (Nat.le_of_ble_eq_true rfl) lw_x_row lw_m_row hSt hl hcells (lw_rn_row hv ht xs i) kk
  | 1, _ => lw_set C hL hi hv hSt hl hcells kk
  | 2, _ => lw_case C hL hi lw_d_copy (Nat.le_of_ble_eq_true rfl) lw_x_copy lw_m_copy hSt hl hcells (lw_rn_copy hv ht xs i) kk
  | 3, _ => lw_element C hL hi hv hSt hl hcells kk
  | 4, _ => lw_case C hL hi lw_d_show (Nat.le_of_ble_eq_true rfl) lw_x_show lw_m_show hSt hl hcells (lw_rn_show hv ht xs i) kk
  | 5, _ => lw_case C hL hi lw_d_holds (Nat.le_of_ble_eq_true rfl) lw_x_holds lw_m_holds hSt hl hcells (lw_rn_holds hv ht xs i) kk
  | 6, _ => lw_case C hL hi lw_d_says (Nat.le_of_ble_eq_true rfl) lw_x_says lw_m_says hSt hl hcells (lw_rn_says hv ht xs i) kk
  | 7, _ => lw_case C hL hi lw_d_stuff (Nat.le_of_ble_eq_true rfl) lw_x_stuff lw_m_stuff hSt hl hcells (lw_rn_stuff hv ht xs i) kk
  | 8, _ => lw_case C hL hi lw_d_stuffOf (Nat.le_of_ble_eq_true rfl) lw_x_stuffOf lw_m_stuffOf hSt hl hcells (lw_rn_stuffOf hv ht xs i) kk
  | 9, _ => lw_case C hL hi lw_d_cell (Nat.le_of_ble_eq_true rfl) lw_x_cell lw_m_cell hSt hl hcells (lw_rn_cell hv ht xs i) kk
  | 10, _ => lw_case C hL hi lw_d_cellOf (Nat.le_of_ble_eq_true rfl) lw_x_cellOf lw_m_cellOf hSt hl hcells (lw_rn_cellOf hv ht xs i) kk
  | 11, _ => lw_case C hL hi lw_d_plan (Nat.le_of_ble_eq_true rfl) lw_x_plan lw_m_plan hSt hl hcells (lw_rn_plan hv ht xs i) kk
  | 12, _ => lw_case C hL hi lw_d_village (Nat.le_of_ble_eq_true rfl) lw_x_village lw_m_village hSt hl hcells (lw_rn_village hv ht xs i) kk
  | 13, _ => lw_case C hL hi lw_d_fault (Nat.le_of_ble_eq_true rfl) lw_x_fault lw_m_fault hSt hl hcells (lw_rn_fault hv ht xs i) kk
  | 14, _ => lw_case C hL hi lw_d_may (Nat.le_of_ble_eq_true rfl) lw_x_may lw_m_may hSt hl hcells (lw_rn_may hv ht xs i) kk
  | 15, _ => lw_case C hL hi lw_d_lay (Nat.le_of_ble_eq_true rfl) lw_x_lay lw_m_lay hSt hl hcells (lw_rn_lay hv ht xs i) kk
  | 16, _ => lw_case C hL hi lw_d_strip (Nat.le_of_ble_eq_true rfl) lw_x_strip lw_m_strip hSt hl hcells (lw_rn_strip hv ht xs i) kk
  | 17, _ => lw_case C hL hi lw_d_spray (Nat.le_of_ble_eq_true rfl) lw_x_spray lw_m_spray hSt hl hcells (lw_rn_spray hv ht xs i) kk
  | 18, _ => lw_case C hL hi lw_d_side (Nat.le_of_ble_eq_true rfl) lw_x_side lw_m_side hSt hl hcells (lw_rn_side hv ht xs i) kk
  | 19, _ => lw_case C hL hi lw_d_hours (Nat.le_of_ble_eq_true rfl) lw_x_hours lw_m_hours hSt hl hcells (lw_rn_hours hv ht xs i) kk
  | 20, _ => lw_case C hL hi lw_d_fresh (Nat.le_of_ble_eq_true rfl) lw_x_fresh lw_m_fresh hSt hl hcells (lw_rn_fresh hv ht xs i) kk
  | 21, _ => lw_case C hL hi lw_d_beauty (Nat.le_of_ble_eq_true rfl) lw_x_beauty lw_m_beauty hSt hl hcells (lw_rn_beauty hv ht xs i) kk
  | 22, _ => lw_case C hL hi lw_d_looks (Nat.le_of_ble_eq_true rfl) lw_x_looks lw_m_looks hSt hl hcells (lw_rn_looks hv ht xs i) kk
  | 23, _ => lw_case C hL hi lw_d_worst (Nat.le_of_ble_eq_true rfl) lw_x_worst lw_m_worst hSt hl hcells (lw_rn_worst hv ht xs i) kk
  | 24, _ => lw_case C hL hi lw_d_all (Nat.le_of_ble_eq_true rfl) lw_x_all lw_m_all hSt hl hcells (lw_rn_all hv ht xs i) kk
  | 25, _ => lw_case C hL hi lw_d_best (Nat.le_of_ble_eq_true rfl) lw_x_best lw_m_best hSt hl hcells (lw_rn_best hv ht xs i) kk
  | 26, _ => lw_case C hL hi lw_d_turn (Nat.le_of_ble_eq_true rfl) lw_x_turn lw_m_turn hSt hl hcells (lw_rn_turn hv ht xs i) kk
  | 27, _ => lw_case C hL hi lw_d_next (Nat.le_of_ble_eq_true rfl) lw_x_next lw_m_next hSt hl hcells (lw_rn_next hv ht xs i) kk
  | 28, _ => lw_case C hL hi lw_d_done (Nat.le_of_ble_eq_true rfl) lw_x_done lw_m_done hSt hl hcells (lw_rn_done hv ht xs i) kk
  | 29, _ => lw_case C hL hi lw_d_women (Nat.le_of_ble_eq_true rfl) lw_x_women lw_m_women hSt hl hcells (lw_rn_women hv ht xs i) kk
  | 30, _ => lw_case C hL hi lw_d_dry (Nat.le_of_ble_eq_true rfl) lw_x_dry lw_m_dry hSt hl hcells (lw_rn_dry hv ht xs i) kk
  | 31, _ => lw_case C hL hi lw_d_sprayings (Nat.le_of_ble_eq_true rfl) lw_x_sprayings lw_m_sprayings hSt hl hcells (lw_rn_sprayings hv ht xs i) kk
  | 32, _ => lw_case C hL hi lw_d_was (Nat.le_of_ble_eq_true rfl) lw_x_was lw_m_was hSt hl hcells (lw_rn_was hv ht xs i) kk
  | 33, _ => lw_case C hL hi lw_d_age (Nat.le_of_ble_eq_true rfl) lw_x_age lw_m_age hSt hl hcells (lw_rn_age hv ht xs i) kk
  | 34, _ => lw_case C hL hi lw_d_lacking (Nat.le_of_ble_eq_true rfl) lw_x_lacking lw_m_lacking hSt hl hcells (lw_rn_lacking hv ht xs i) kk
  | 35, _ => lw_case C hL hi lw_d_wrong (Nat.le_of_ble_eq_true rfl) lw_x_wrong lw_m_wrong hSt hl hcells (lw_rn_wrong hv ht xs i) kk
  | 36, _ => lw_case C hL hi lw_d_judge (Nat.le_of_ble_eq_true rfl) lw_x_judge lw_m_judge hSt hl hcells (lw_rn_judge hv ht xs i) kk
  | 37, _ => lw_case C hL hi lw_d_days (Nat.le_of_ble_eq_true rfl) lw_x_days lw_m_days hSt hl hcells (lw_rn_days hv ht xs i) kk
  | 38, _ => lw_case C hL hi lw_d_seed (Nat.le_of_ble_eq_true rfl) lw_x_seed lw_m_seed hSt hl hcells (lw_rn_seed hv ht xs i) kk
  | 39, _ => lw_case C hL hi lw_d_act (Nat.le_of_ble_eq_true rfl) lw_x_act lw_m_act hSt hl hcells (lw_rn_act hv ht xs i) kk
  | 40, _ => lw_case C hL hi lw_d_trace (Nat.le_of_ble_eq_true rfl) lw_x_trace lw_m_trace hSt hl hcells (lw_rn_trace hv ht xs i) kk
  | 41, _ => lw_case C hL hi lw_d_image (Nat.le_of_ble_eq_true rfl) lw_x_image lw_m_image hSt hl hcells (lw_rn_image hv ht xs i) kk
  | 42, _ => lw_case C hL hi lw_d_restore (Nat.le_of_ble_eq_true rfl) lw_x_restore lw_m_restore hSt hl hcells (lw_rn_restore hv ht xs i) kk
  | 43, _ => lw_case C hL hi lw_d_status (Nat.le_of_ble_eq_true rfl) lw_x_status lw_m_status hSt hl hcells (lw_rn_status hv ht xs i) kk
  | n + 44, h => absurd h (by omega)
theorem lw_sub6 {L : Nat} (hL : L ≤ 3072) : (Int32.ofNat L - 6).toInt = (L : Int) - 6 := by
  rw [Int32.toInt_sub, show (Int32.ofNat L).toInt = (L : Int) from nI_toInt (by omega), show (6 : Int32).toInt = 6 from rfl]
  exact Int.bmod_eq_of_le (by omega) (by omega)
theorem lw_loop (C : lw_Cx p s m meth c b L xs ex cI cJ cS dC dI) (hL : L ≤ 3072) : ∀ (n i t : Nat) (I : am_mI) (J : am_mJ) (A : am_mI) (K : am_mJ) (H : Heap) (locs : List Loc) (ls : Array Slot), i ≤ L → L + 1 ≤ i + n → 6 * t ≤ 20000 * i → am_Iv t I J A K → lw_St s ex cI cJ cS dC dI B I J A K H locs → lv_has ls 4 [(0, .ref b), (1, .ref B), (2, .ref (B + 57)), (3, .int (nI i))] →
    W p l e room_1 s m #[Value.ref b] below meth c H locs 600000 7302250 (lw_Z below #[Value.ref b] s) (F0 m 18 ls []) := by
  obtain ⟨hx, hb, hr, hml, hown, hts, hX, hbl, hlocks, hgv⟩ := id C.1
  intro n
  induction n with
  | zero => intro i t I J A K H locs ls h1 h2; exact absurd h2 (by omega)
  | succ n ih =>
    intro i t I J A K H locs ls h1 h2 ht hv hSt hl
    have hS := hSt.2.2.2
    have hbA : ¬ s.heap.size ≤ b := Nat.not_le.mpr hbl
    refine lv_iload_n hx hb (show decode code 18 = .ok (.iload_n 3, 1) by decide +kernel) rfl (lv_at hl 3 rfl) ?_
    refine lv_aload_n hx hb (show decode code 19 = .ok (.aload_n 0, 1) by decide +kernel) rfl (lv_at hl 0 rfl) ?_
    refine va_slen hx hb hX hbl hbA hS (show decode code 20 = .ok (.arraylength, 1) by decide +kernel) ?_
    refine lv_bipush (v := 6) hx hb (show decode code 21 = .ok (.bipush 6, 2) by decide +kernel) (by decide) ?_
    refine lv_isub hx hb (show decode code 23 = .ok (.isub, 1) by decide +kernel) ?_
    refine lv_icmp_gt (tgt := 1523) hx hb (show decode code 24 = .ok (.if_icmp .gt 1499, 3) by decide +kernel) (by decide) (fun _ => ?_) (fun hle => ?_)
    · refine lv_iconst (v := 1) hx hb (show decode code 1523 = .ok (.iconst 1, 1) by decide +kernel) (by decide) ?_
      refine va_forget (fun q hq => hS.2.2 q hq) ?_
      exact lw_ret hx hb hr hlocks (by decide +kernel)
    · have hi : i + 6 ≤ L := by
        rw [Int32.lt_iff_toInt_lt, lw_sub6 hL, nI_toInt (by omega)] at hle
        omega
      refine lv_aload_n hx hb (show decode code 27 = .ok (.aload_n 0, 1) by decide +kernel) rfl (lv_at hl 0 rfl) ?_
      refine lv_iload_n hx hb (show decode code 28 = .ok (.iload_n 3, 1) by decide +kernel) rfl (lv_at hl 3 rfl) ?_
      refine va_sld hx hb hX hbl hbA hS (vp_in_nI (by omega) (by omega)) (show decode code 29 = .ok (.iaload, 1) by decide +kernel) ?_
      refine lv_bipush (v := 63) hx hb (show decode code 30 = .ok (.bipush 63, 2) by decide +kernel) (by decide) ?_
      refine lv_iand hx hb (show decode code 32 = .ok (.iand, 1) by decide +kernel) ?_
      have kk : ∀ (I' : am_mI) (J' : am_mJ) (A' : am_mI) (K' : am_mJ) (H1 : Heap) (locs1 : List Loc), am_Iv (t + 20000) I' J' A' K' → lw_St s ex cI cJ cS dC dI B I' J' A' K' H1 locs1 → W p l e room_1 s m #[Value.ref b] below meth c H1 locs1 600000 7302250 (lw_Z below #[Value.ref b] s) (F0 m 1517 ls []) := by
        intro I' J' A' K' H1 locs1 hv1 hSt1
        refine lv_iinc (v := nI (i + 6)) (lv' := [(3, .int (nI (i + 6))), (0, .ref b), (1, .ref B), (2, .ref (B + 57))]) hx hb (show decode code 1517 = .ok (.iinc 3 6, 3) by decide +kernel) hl (k := 3) rfl (nI_add i 6) (by decide) rfl (fun ls hl => ?_)
        refine lv_goto (tgt := 18) hx hb (show decode code 1520 = .ok (.goto (-1502), 3) by decide +kernel) (by decide) ?_
        exact ih (i + 6) (t + 20000) I' J' A' K' H1 locs1 ls hi (by omega) (by omega) hv1 hSt1 (lv_sub hl [1, 2, 3, 0] rfl)
      exact lw_switch C (kk I J A K H locs (hv.more (by omega)) hSt) (lw_round C hL hi (by omega) hv hSt hl ⟨Nat.le_refl _, Nat.le_refl _⟩ kk)
end LWM
