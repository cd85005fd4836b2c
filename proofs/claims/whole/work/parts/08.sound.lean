/-! WHAT THE ABSTRACT MACHINE SAYS HOLDS OF THE MACHINE: the world of a memory, and each plain step by the kit's rows. -/
def ar_v (B : Nat) (ex : Nat → Value) : Value → Value
  | .ref k => if k < 1000 then .ref (B + k) else ex k
  | v => v
def ar_o (B : Nat) : Value → Option Nat
  | .ref k => some (B + k)
  | _ => none
def ar_fs (B : Nat) (ex : Nat → Value) (I : Nat → Nat → Int32) (R : Nat → Nat → Value) (h ci n : Nat) : List Value := (List.range n).map (fun k => if ar_ft ci k = 1 then ar_v B ex (R h k) else .int (I h k))
def ar_cell (B : Nat) (ex : Nat → Value) (cI cJ cS : ClassId) (I : Nat → Nat → Int32) (J : Nat → Nat → Int64) (R : Nat → Nat → Value) (h : Nat) (t : Nat × Nat) : va_E :=
  if t.1 = 50 then .inl (cI, t.2, .inl (I h)) else if t.1 = 51 then .inl (cJ, t.2, .inr (.inl (J h))) else if t.1 = 52 then .inl (cS, t.2, .inr (.inr (.inr (.inr (fun j => ar_o B (R h j)))))) else .inr (t.1, ar_fs B ex I R h t.1 t.2)
def ar_W (B : Nat) (ex : Nat → Value) (cI cJ cS : ClassId) (M : am_M) : va_W := M.1.mapIdx (fun h t => (B + h, ar_cell B ex cI cJ cS M.2.1 M.2.2.1 M.2.2.2 h t))
def ar_tys (cI cJ cS : ClassId) : List (ClassId × FieldType) := [(cI, .int), (cJ, .long), (cS, .object RX3)]
def am_lens : List Nat := [5, 4, 4, 3, 4, 5, 5]
def am_tx (i : Nat) : String := ["stuff", "cell", "plan", "lay", "side", "spray", "hours"].getD i ""
def ar_X (ex : Nat → Value) (A : Nat → Prop) (U : State) (H : Heap) : Prop :=
  (∃ adK adV : Nat → Nat, vk_S 7 am_lens am_words adK adV A U H ∧ ∀ i : Nat, i < 7 → ex (1000 + i) = .ref (adK i) ∧ ex (1100 + i) = .ref (adV i) ∧ vk_R "PetalPictures$Village" (53 + 2 * i) (am_tx i) (adK i) U) ∧
  (∃ t : Nat, ex 2000 = .ref t ∧ va_Z "PetalPictures$Kind" "ABOVE" "[I" (.ref t) A U H ∧ va_T .int t 7 (fun j => .int (am_nthI am_above j)) A U H) ∧
  (∃ t : Nat, ex 2001 = .ref t ∧ va_Z "PetalPictures$Acts" "BODIES" "[I" (.ref t) A U H ∧ va_T .int t 21 (fun j => .int (am_nthI am_bodies j)) A U H) ∧
  va_Z "java/lang/String" "COMPACT_STRINGS" "Z" (.int 1) A U H ∧ va_Z "jdk/internal/util/Preconditions" "SIOOBE_FORMATTER" "Ljava/util/function/BiFunction;" (ex 2002) A U H ∧
  (∀ k : Nat, ex k = .null ∨ ∃ a : Nat, ex k = .ref a) ∧ (∀ q ∈ ar_nest, va_Nw (.methodLinkNest q.1 q.2.1 q.2.2 "PetalPictures") U) ∧ va_AO RX3 U
theorem ar_X.to {ex : Nat → Value} {A A' : Nat → Prop} {s U : State} {H : Heap} (hW : s.WarmedH U.vm) (hS : ∀ q : Nat, q < s.heap.size → ¬ A q → H[q]? = s.heap[q]?) (hA : ∀ q, A' q → A q) (h : ar_X ex A s s.heap) : ar_X ex A' U H := by
  obtain ⟨⟨adK, adV, h1, h2⟩, ⟨t1, h3, h4, h5⟩, ⟨t2, h6, h7, h8⟩, h9, h10, h11, h12, h13⟩ := h
  exact ⟨⟨adK, adV, ((h1.moved hW.alike).kept hS).narrow hA, fun i hi => ⟨(h2 i hi).1, (h2 i hi).2.1, (h2 i hi).2.2.warm hW⟩⟩, ⟨t1, h3, ((h4.moved hW.alike).kept hS).narrow hA, ((h5.moved hW.alike).kept hS).narrow hA⟩,
    ⟨t2, h6, ((h7.moved hW.alike).kept hS).narrow hA, ((h8.moved hW.alike).kept hS).narrow hA⟩, ((h9.moved hW.alike).kept hS).narrow hA, ((h10.moved hW.alike).kept hS).narrow hA, h11, fun q hq => va_Nw.warmM hW (h12 q hq), h13.moved hW.alike⟩
theorem ar_X.calling {ex : Nat → Value} {A : Nat → Prop} {u U : State} {H : Heap} (hv : U.vm = u.vm) (h : ar_X ex A u H) : ar_X ex A U H := by
  have hal : u.vm.Alike U.vm := by rw [hv]; exact Vm.Alike.refl _
  obtain ⟨⟨adK, adV, h1, h2⟩, ⟨t1, h3, h4, h5⟩, ⟨t2, h6, h7, h8⟩, h9, h10, h11, h12, h13⟩ := h
  exact ⟨⟨adK, adV, h1.moved hal, fun i hi => ⟨(h2 i hi).1, (h2 i hi).2.1, vk_R.same hv (h2 i hi).2.2⟩⟩, ⟨t1, h3, h4.moved hal, h5.moved hal⟩, ⟨t2, h6, h7.moved hal, h8.moved hal⟩, h9.moved hal, h10.moved hal, h11, fun q hq => va_Nw.same rfl hv.symm (h12 q hq), h13.moved hal⟩
-- the words
def ar_good : List Cond := lw_tbl.filter goodWord
def ar_ws (y : Nat) : List Cond := .code (am_mt y).1 (am_mt y).2.1 (am_mt y).2.2.1 (am_mt y).2.2.2.1 :: ar_good
theorem ar_w_in {q : Nat} {w : Cond} (h : ar_w q w = true) : w ∈ lw_tbl := List.mem_of_getElem? (of_decide_eq_true h)
theorem ar_in {y q : Nat} {w : Cond} (h : ar_w q w = true) (hg : goodWord w = true) : w ∈ ar_ws y := List.mem_cons_of_mem _ (List.mem_filter.mpr ⟨ar_w_in h, hg⟩)
theorem ar_inT {y : Nat} {w : Cond} (h : w ∈ lw_tbl) (hg : goodWord w = true) : w ∈ ar_ws y := List.mem_cons_of_mem _ (List.mem_filter.mpr ⟨h, hg⟩)
theorem ar_sub {x y : Nat} (hc : Cond.code (am_mt x).1 (am_mt x).2.1 (am_mt x).2.2.1 (am_mt x).2.2.2.1 ∈ lw_tbl) : GoodIn (ar_ws y) (ar_ws x) := by
  intro w hw
  rcases List.mem_cons.mp hw with rfl | hw
  · exact ⟨List.mem_cons_of_mem _ (List.mem_filter.mpr ⟨hc, rfl⟩), Or.inl rfl⟩
  · exact ⟨List.mem_cons_of_mem _ hw, good_of_word (List.mem_filter.mp hw).2⟩
theorem ar_cls (ci : Nat) (h : ci < 7) : vwCl[ci]? = some (ar_C ci, ar_T ci, ar_N ci) ∧ (∀ w ∈ u_ws (ar_C ci) (ar_T ci) (ar_N ci), w ∈ lw_tbl ∧ goodWord w = true) ∧ (∀ a, a < ar_N ci → ∀ b, b < ar_N ci → a ≠ b → (ar_T ci a).2.1 ≠ (ar_T ci b).2.1) ∧ ∃ ty : Nat → FieldType, ∀ k, k < ar_N ci → parseFieldDescriptor (ar_T ci k).2.2.1 = some (ty k) := by
  have hc : ci = 0 ∨ ci = 1 ∨ ci = 2 ∨ ci = 3 ∨ ci = 4 ∨ ci = 5 ∨ ci = 6 := by omega
  rcases hc with rfl | rfl | rfl | rfl | rfl | rfl | rfl
  · exact ⟨rfl, fun w hw => ⟨iwX0 w hw, List.all_eq_true.mp (show (u_ws (ar_C 0) (ar_T 0) (ar_N 0)).all goodWord = true by decide +kernel) w hw⟩, nmX0, tyX0, tyX0_ok⟩
  · exact ⟨rfl, fun w hw => ⟨iwX1 w hw, List.all_eq_true.mp (show (u_ws (ar_C 1) (ar_T 1) (ar_N 1)).all goodWord = true by decide +kernel) w hw⟩, nmX1, tyX1, tyX1_ok⟩
  · exact ⟨rfl, fun w hw => ⟨iwX3 w hw, List.all_eq_true.mp (show (u_ws (ar_C 2) (ar_T 2) (ar_N 2)).all goodWord = true by decide +kernel) w hw⟩, nmX3, tyX3, tyX3_ok⟩
  · exact ⟨rfl, fun w hw => ⟨iwX5 w hw, List.all_eq_true.mp (show (u_ws (ar_C 3) (ar_T 3) (ar_N 3)).all goodWord = true by decide +kernel) w hw⟩, nmX5, tyX5, tyX5_ok⟩
  · exact ⟨rfl, fun w hw => ⟨iwX6 w hw, List.all_eq_true.mp (show (u_ws (ar_C 4) (ar_T 4) (ar_N 4)).all goodWord = true by decide +kernel) w hw⟩, nmX6, tyX6, tyX6_ok⟩
  · exact ⟨rfl, fun w hw => ⟨iwX7 w hw, List.all_eq_true.mp (show (u_ws (ar_C 5) (ar_T 5) (ar_N 5)).all goodWord = true by decide +kernel) w hw⟩, nmX7, tyX7, tyX7_ok⟩
  · exact ⟨rfl, fun w hw => ⟨iwX8 w hw, List.all_eq_true.mp (show (u_ws (ar_C 6) (ar_T 6) (ar_N 6)).all goodWord = true by decide +kernel) w hw⟩, nmX8, tyX8, tyX8_ok⟩
theorem ar_uin {ci y : Nat} (h : ci < 7) : ∀ w ∈ u_ws (ar_C ci) (ar_T ci) (ar_N ci), w ∈ ar_ws y := fun w hw => ar_inT ((ar_cls ci h).2.1 w hw).1 ((ar_cls ci h).2.1 w hw).2
theorem ar_inst (ci : Nat) (h : ci < 7) : Cond.instantiable (ar_C ci) (ar_N ci) ∈ lw_tbl ∧ Cond.initialized (ar_C ci) ∈ lw_tbl := by
  have hc : ci = 0 ∨ ci = 1 ∨ ci = 2 ∨ ci = 3 ∨ ci = 4 ∨ ci = 5 ∨ ci = 6 := by omega
  rcases hc with rfl | rfl | rfl | rfl | rfl | rfl | rfl <;> exact ⟨by decide +kernel, by decide +kernel⟩
theorem ar_objW : Cond.instanceMethod objectInit ∈ lw_tbl ∧ Cond.code objectInit ⟨#[0xb1]⟩ 1 none ∈ lw_tbl := ⟨by decide +kernel, by decide +kernel⟩
theorem ar_copyW : Cond.native arraycopyName ∈ lw_tbl ∧ Cond.static arraycopyName ∈ lw_tbl ∧ Cond.initialized "java/lang/System" ∈ lw_tbl := ⟨by decide +kernel, by decide +kernel, by decide +kernel⟩
theorem ar_mathW : (Cond.static Lib.Math.max.name ∈ lw_tbl ∧ Cond.code Lib.Math.max.name Lib.Math.max.code 2 (some .int) ∈ lw_tbl) ∧ (Cond.static Lib.Math.min.name ∈ lw_tbl ∧ Cond.code Lib.Math.min.name Lib.Math.min.code 2 (some .int) ∈ lw_tbl) ∧ Cond.initialized "java/lang/Math" ∈ lw_tbl := ⟨⟨by decide +kernel, by decide +kernel⟩, ⟨by decide +kernel, by decide +kernel⟩, by decide +kernel⟩
theorem ar_arrW : Cond.arrayClass .int ∈ lw_tbl ∧ Cond.arrayClass .long ∈ lw_tbl := ⟨by decide +kernel, by decide +kernel⟩
theorem ar_small : ∀ y, y < am_N → (am_mt y).2.2.1 ≤ 40 := by
  have h : (List.range am_N).all (fun y => decide ((am_mt y).2.2.1 ≤ 40)) = true := by decide +kernel
  intro y hy
  exact of_decide_eq_true (List.all_eq_true.mp h y (List.mem_range.mpr hy))
-- lists
theorem am_nth_some {tg : List (Nat × Nat)} {h k n : Nat} (e : am_nth tg h = (k, n)) (hk : k ≠ 99) : tg[h]? = some (k, n) := by
  induction tg generalizing h with
  | nil => simp [am_nth] at e; omega
  | cons x r ih =>
    cases h with
    | zero => simpa [am_nth] using e
    | succ h => simpa [am_nth] using ih (h := h) e
theorem am_nth_99 {tg : List (Nat × Nat)} {h n : Nat} (hh : tg.length ≤ h) : am_nth tg h = (99, 0) := by
  induction tg generalizing h with
  | nil => rfl
  | cons x r ih =>
    cases h with
    | zero => simp at hh
    | succ h => exact ih (h := h) (by simpa using hh)
theorem am_cnt_len : ∀ (tg : List (Nat × Nat)), am_cnt tg = tg.length
  | [] => rfl
  | _ :: r => by rw [am_cnt, am_cnt_len r]; rfl
theorem am_app_eq : ∀ (tg : List (Nat × Nat)) (x : Nat × Nat), am_app tg x = tg ++ [x]
  | [], _ => rfl
  | _ :: r, x => by rw [am_app, am_app_eq r]; rfl
theorem am_nthI_eq : ∀ (l : List Int32) (k : Nat), am_nthI l k = l.getD k 0
  | [], _ => rfl
  | _ :: _, 0 => rfl
  | _ :: r, k + 1 => by rw [am_nthI, am_nthI_eq r]; simp
theorem am_nthL_eq : ∀ (l : List (List Int32)) (k : Nat), am_nthL l k = l.getD k []
  | [], _ => rfl
  | _ :: _, 0 => rfl
  | _ :: r, k + 1 => by rw [am_nthL, am_nthL_eq r]; simp
theorem am_len_eq : ∀ (l : List Int32), am_len l = l.length
  | [] => rfl
  | _ :: r => by rw [am_len, am_len_eq r]; rfl
section ARW
variable {B : Nat} {ex : Nat → Value} {cI cJ cS : ClassId} {tg : List (Nat × Nat)} {I I' : Nat → Nat → Int32} {J J' : Nat → Nat → Int64} {R R' : Nat → Nat → Value} {h k n : Nat}
theorem ar_W_at {t : Nat × Nat} (e : tg[h]? = some t) : (ar_W B ex cI cJ cS (tg, I, J, R))[h]? = some (B + h, ar_cell B ex cI cJ cS I J R h t) := by
  simp [ar_W, e]
theorem ar_W_set {t : Nat × Nat} {x : va_E} (e : tg[h]? = some t) (hx : ar_cell B ex cI cJ cS I' J' R' h t = x) (ho : ∀ i u, i ≠ h → ar_cell B ex cI cJ cS I' J' R' i u = ar_cell B ex cI cJ cS I J R i u) : (ar_W B ex cI cJ cS (tg, I, J, R)).set h (B + h, x) = ar_W B ex cI cJ cS (tg, I', J', R') := by
  apply List.ext_getElem?
  intro i
  rw [List.getElem?_set]
  obtain ⟨hl, e'⟩ := List.getElem?_eq_some_iff.mp e
  by_cases hi : h = i
  · subst hi
    simp [ar_W, e', hx, hl]
  · rw [if_neg hi]
    simp only [ar_W, List.getElem?_mapIdx]
    cases hu : tg[i]? with
    | none => rfl
    | some u => simp [ho i u (fun q => hi q.symm)]
theorem ar_W_push {x : Nat × Nat} {c : va_E} (hx : ar_cell B ex cI cJ cS I' J' R' tg.length x = c) (ho : ∀ i u, i < tg.length → ar_cell B ex cI cJ cS I' J' R' i u = ar_cell B ex cI cJ cS I J R i u) : ar_W B ex cI cJ cS (tg, I, J, R) ++ [(B + tg.length, c)] = ar_W B ex cI cJ cS (tg ++ [x], I', J', R') := by
  apply List.ext_getElem?
  intro i
  have hL : (ar_W B ex cI cJ cS (tg, I, J, R)).length = tg.length := by simp [ar_W]
  rcases Nat.lt_trichotomy i tg.length with hi | hi | hi
  · rw [List.getElem?_append_left (by rw [hL]; exact hi)]
    simp only [ar_W, List.getElem?_mapIdx, List.getElem?_append_left hi]
    cases hu : tg[i]? with
    | none => rfl
    | some u => simp [ho i u hi]
  · subst hi
    rw [List.getElem?_append_right (by rw [hL]; exact Nat.le_refl _)]
    simp [ar_W, hx]
  · rw [List.getElem?_eq_none (by simp [hL]; omega), List.getElem?_eq_none (by simp [ar_W]; omega)]
theorem ar_W_D {A : Nat → Prop} {M : am_M} (hA : ∀ k, k < M.1.length → A (B + k)) : va_D A (ar_W B ex cI cJ cS M) := by
  have key : ∀ (i : Nat) (p : Nat × va_E), (ar_W B ex cI cJ cS M)[i]? = some p → p.1 = B + i ∧ i < M.1.length := by
    intro i p hp
    simp only [ar_W, List.getElem?_mapIdx] at hp
    cases hu : M.1[i]? with
    | none => rw [hu] at hp; cases hp
    | some u =>
      rw [hu] at hp
      cases hp
      exact ⟨rfl, (List.getElem?_eq_some_iff.mp hu).1⟩
  refine ⟨fun i j p q hp hq e => ?_, fun k q hq => ?_⟩
  · have h1 := (key i p hp).1
    have h2 := (key j q hq).1
    omega
  · rw [(key k q hq).1]
    exact hA k (key k q hq).2
theorem ar_cellI (i : Nat) (u : Nat × Nat) {v : Int32} (hi : i ≠ h) : ar_cell B ex cI cJ cS (am_upI I h k v) J R i u = ar_cell B ex cI cJ cS I J R i u := by
  have e : (am_upI I h k v) i = I i := by funext b; simp [am_upI, hi]
  simp only [ar_cell, ar_fs, e]
theorem ar_cellJ (i : Nat) (u : Nat × Nat) {v : Int64} (hi : i ≠ h) : ar_cell B ex cI cJ cS I (am_upJ J h k v) R i u = ar_cell B ex cI cJ cS I J R i u := by
  have e : (am_upJ J h k v) i = J i := by funext b; simp [am_upJ, hi]
  simp only [ar_cell, ar_fs, e]
theorem ar_cellR (i : Nat) (u : Nat × Nat) {v : Value} (hi : i ≠ h) : ar_cell B ex cI cJ cS I J (am_upR R h k v) i u = ar_cell B ex cI cJ cS I J R i u := by
  have e : (am_upR R h k v) i = R i := by funext b; simp [am_upR, hi]
  simp only [ar_cell, ar_fs, e]
theorem ar_cellRow (i : Nat) (u : Nat × Nat) (hi : i ≠ h) : ar_cell B ex cI cJ cS (am_rowI I h) (am_rowJ J h) (am_rowR R h) i u = ar_cell B ex cI cJ cS I J R i u := by
  have e1 : (am_rowI I h) i = I i := by funext b; simp [am_rowI, hi]
  have e2 : (am_rowJ J h) i = J i := by funext b; simp [am_rowJ, hi]
  have e3 : (am_rowR R h) i = R i := by funext b; simp [am_rowR, hi]
  simp only [ar_cell, ar_fs, e1, e2, e3]
theorem ar_cellCI (i g sp dp c : Nat) (u : Nat × Nat) (hi : i ≠ h) : ar_cell B ex cI cJ cS (am_cpI I g h sp dp c) J R i u = ar_cell B ex cI cJ cS I J R i u := by
  have e : (am_cpI I g h sp dp c) i = I i := by funext b; simp [am_cpI, hi]
  simp only [ar_cell, ar_fs, e]
theorem ar_cellCJ (i g sp dp c : Nat) (u : Nat × Nat) (hi : i ≠ h) : ar_cell B ex cI cJ cS I (am_cpJ J g h sp dp c) R i u = ar_cell B ex cI cJ cS I J R i u := by
  have e : (am_cpJ J g h sp dp c) i = J i := by funext b; simp [am_cpJ, hi]
  simp only [ar_cell, ar_fs, e]
theorem ar_fs_get {ci : Nat} (hk : k < n) : (ar_fs B ex I R h ci n)[k]? = some (if ar_ft ci k = 1 then ar_v B ex (R h k) else .int (I h k)) := by
  simp [ar_fs, hk]
theorem ar_fs_set {ci : Nat} {v : Value} (hk : k < n) (hv : (if ar_ft ci k = 1 then ar_v B ex (R' h k) else .int (I' h k)) = v) (ho : ∀ j, j ≠ k → (if ar_ft ci j = 1 then ar_v B ex (R' h j) else .int (I' h j)) = (if ar_ft ci j = 1 then ar_v B ex (R h j) else .int (I h j))) : (ar_fs B ex I R h ci n).set k v = ar_fs B ex I' R' h ci n := by
  apply List.ext_getElem?
  intro i
  rw [List.getElem?_set]
  by_cases hi : k = i
  · subst hi
    simp [ar_fs, hk, hv]
  · rw [if_neg hi]
    by_cases hn : i < n
    · rw [ar_fs_get hn, ar_fs_get hn, ho i (fun q => hi q.symm)]
    · simp [ar_fs, hn]
end ARW
-- locals
def ar_lv (B : Nat) (ex : Nat → Value) (ls : List Value) : List (Nat × Value) := (List.range ls.length).filterMap (fun i => match am_get ls i with
  | .retAddr _ => none
  | v => some (i, ar_v B ex v))
theorem am_get_eq : ∀ (ls : List Value) (i : Nat), am_get ls i = ls.getD i (.retAddr 0)
  | [], _ => rfl
  | _ :: _, 0 => rfl
  | _ :: r, i + 1 => by rw [am_get, am_get_eq r]; simp
theorem am_get_lt {ls : List Value} {i : Nat} {v : Value} (h : am_get ls i = v) (hv : ∀ a, v ≠ .retAddr a) : i < ls.length := by
  rcases Nat.lt_or_ge i ls.length with q | q
  · exact q
  · rw [am_get_eq, List.getD_eq_getElem?_getD, List.getElem?_eq_none q] at h
    exact absurd h.symm (hv 0)
theorem ar_lv_mem {B : Nat} {ex : Nat → Value} {ls : List Value} {q : Nat × Value} : q ∈ ar_lv B ex ls ↔ ∃ v, am_get ls q.1 = v ∧ (∀ a, v ≠ .retAddr a) ∧ q.2 = ar_v B ex v := by
  simp only [ar_lv, List.mem_filterMap, List.mem_range]
  constructor
  · rintro ⟨i, hi, h⟩
    cases hg : am_get ls i <;> rw [hg] at h <;> simp at h <;> (subst h; exact ⟨_, hg, fun a e => (by cases e), rfl⟩)
  · rintro ⟨v, h1, h2, h3⟩
    refine ⟨q.1, am_get_lt h1 h2, ?_⟩
    rw [h1]
    obtain ⟨i, w⟩ := q
    dsimp only at h3
    subst h3
    cases v <;> first | rfl | exact absurd rfl (h2 _)
theorem ar_lv_in {B : Nat} {ex : Nat → Value} {ls : List Value} {lsl : Array Slot} {nL i : Nat} {v : Value} (hl : lv_has lsl nL (ar_lv B ex ls)) (h : am_get ls i = v) (hv : ∀ a, v ≠ .retAddr a) : lsl[i]? = some (.val (ar_v B ex v)) := hl.2.2 (i, ar_v B ex v) (ar_lv_mem.mpr ⟨v, h, hv, rfl⟩)
theorem lv_has.less {ls : Array Slot} {nL : Nat} {l l' : List (Nat × Value)} (h : lv_has ls nL l) (hm : ∀ q ∈ l', q ∈ l) : lv_has ls nL l' := ⟨h.1, h.2.1, fun q hq => h.2.2 q (hm q hq)⟩
theorem am_set_eq {k : List Value → am_O} {c : am_C} : ∀ {ls : List Value} {i : Nat} {v : Value}, am_set ls i v k = some (.inl c) → i < ls.length ∧ k (ls.set i v) = some (.inl c) ∧ ∀ (w : Value) (j : Nat), j + 1 = i → am_get ls j = w → w.category = 2 → False := by
  intro ls
  induction ls generalizing k with
  | nil => intro i v h; simp [am_set] at h
  | cons x r ih =>
    intro i v h
    cases i with
    | zero => exact ⟨by simp, h, fun _ _ q => by omega⟩
    | succ i =>
      have hne : i = 0 → x.category = 2 → False := by
        rintro rfl hx
        cases x <;> first | (simp [am_set] at h; done) | (simp [Value.category] at hx; done)
      have h' : am_set r i v (fun t => k (x :: t)) = some (.inl c) := by
        cases i with
        | zero => cases x <;> first | exact h | exact (hne rfl rfl).elim
        | succ i => cases x <;> exact h
      obtain ⟨h1, h2, h3⟩ := ih h'
      refine ⟨by simpa using h1, by simpa using h2, fun w j hj hz hw => ?_⟩
      cases j with
      | zero => exact hne (by omega) (by rw [show x = w from hz]; exact hw)
      | succ j => exact h3 w j (by omega) hz hw
theorem ar_v_cat {B : Nat} {ex : Nat → Value} (hex : ∀ k : Nat, ex k = .null ∨ ∃ a : Nat, ex k = .ref a) (v : Value) : (ar_v B ex v).category = v.category := by
  cases v <;> try rfl
  rename_i k
  by_cases hk : k < 1000
  · simp [ar_v, hk, Value.category]
  · rcases hex k with q | ⟨a, q⟩ <;> simp [ar_v, hk, q, Value.category]
theorem ar_lv_set {B : Nat} {ex : Nat → Value} (hex : ∀ k : Nat, ex k = .null ∨ ∃ a : Nat, ex k = .ref a) {ls : List Value} {i : Nat} {v : Value} (h3 : ∀ (w : Value) (j : Nat), j + 1 = i → am_get ls j = w → w.category = 2 → False) : ∀ q ∈ ar_lv B ex (ls.set i v), q ∈ (i, ar_v B ex v) :: (ar_lv B ex ls).filter (fun q => !(q.1 == i) && !(q.1 + 1 == i && q.2.category == 2)) := by
  intro q hq
  obtain ⟨w, h1, h2, h4⟩ := ar_lv_mem.mp hq
  rw [am_get_eq, List.getD_eq_getElem?_getD, List.getElem?_set] at h1
  by_cases hi : i = q.1
  · rw [if_pos hi] at h1
    by_cases hl : i < ls.length
    · rw [if_pos hl] at h1
      have e : v = w := h1
      subst e
      exact List.mem_cons.mpr (Or.inl (by rw [← h4, hi]))
    · rw [if_neg hl] at h1
      exact absurd h1.symm (h2 0)
  · rw [if_neg hi] at h1
    have hg : am_get ls q.1 = w := by rw [am_get_eq, List.getD_eq_getElem?_getD]; exact h1
    refine List.mem_cons_of_mem _ (List.mem_filter.mpr ⟨ar_lv_mem.mpr ⟨w, hg, h2, h4⟩, ?_⟩)
    have hne : (q.1 == i) = false := by simpa using fun e => hi e.symm
    rw [hne]
    have hc : (q.1 + 1 == i && q.2.category == 2) = false := by
      rw [Bool.and_eq_false_iff]
      by_cases hq1 : q.1 + 1 = i
      · right
        rw [h4, ar_v_cat hex]
        rcases lv_cat w with q2 | q2
        · rw [q2]; rfl
        · exact (h3 w _ hq1 hg q2).elim
      · left
        simpa using hq1
    rw [hc]
    rfl
