/-! THE ABSTRACT MACHINE's instructions -/
def am_upI (I : Nat → Nat → Int32) (h k : Nat) (v : Int32) : Nat → Nat → Int32 := fun a b => if a = h ∧ b = k then v else I a b
def am_upJ (J : Nat → Nat → Int64) (h k : Nat) (v : Int64) : Nat → Nat → Int64 := fun a b => if a = h ∧ b = k then v else J a b
def am_upR (R : Nat → Nat → Value) (h k : Nat) (v : Value) : Nat → Nat → Value := fun a b => if a = h ∧ b = k then v else R a b
def am_rowI (I : Nat → Nat → Int32) (h : Nat) : Nat → Nat → Int32 := fun a b => if a = h then 0 else I a b
def am_rowJ (J : Nat → Nat → Int64) (h : Nat) : Nat → Nat → Int64 := fun a b => if a = h then 0 else J a b
def am_rowR (R : Nat → Nat → Value) (h : Nat) : Nat → Nat → Value := fun a b => if a = h then .null else R a b
def am_cpI (I : Nat → Nat → Int32) (g h sp dp n : Nat) : Nat → Nat → Int32 := fun a b => if a = h then va_cpy (I g) (I h) sp dp n b else I a b
def am_cpJ (J : Nat → Nat → Int64) (g h sp dp n : Nat) : Nat → Nat → Int64 := fun a b => if a = h then va_cpy (J g) (J h) sp dp n b else J a b
def am_nth : List (Nat × Nat) → Nat → Nat × Nat
  | [], _ => (99, 0)
  | x :: _, 0 => x
  | _ :: r, n + 1 => am_nth r n
def am_get : List Value → Nat → Value
  | [], _ => .retAddr 0
  | v :: _, 0 => v
  | _ :: r, n + 1 => am_get r n
def am_set : List Value → Nat → Value → (List Value → am_O) → am_O
  | [], _, _, _ => none
  | _ :: r, 0, v, k => k (v :: r)
  | .long _ :: _, 1, _, _ => none
  | .double _ :: _, 1, _, _ => none
  | x :: r, n + 1, v, k => am_set r n v (fun t => k (x :: t))
def am_pop : Nat → List Value → List Value → (List Value → List Value → am_O) → am_O
  | 0, st, acc, k => k acc st
  | n + 1, v :: st, acc, k => am_pop n st (v :: acc) k
  | _ + 1, [], _, _ => none
def am_ws : List Value → Nat
  | [] => 0
  | .long _ :: r => am_ws r + 2
  | .double _ :: r => am_ws r + 2
  | _ :: r => am_ws r + 1
def am_fill : Nat → List Value
  | 0 => []
  | n + 1 => .retAddr 0 :: am_fill n
def am_loc : Nat → List Value → List Value
  | n, [] => am_fill n
  | n, .long x :: r => .long x :: .retAddr 0 :: am_loc (n - 2) r
  | n, .double x :: r => .double x :: .retAddr 0 :: am_loc (n - 2) r
  | n, v :: r => v :: am_loc (n - 1) r
/-- what lies outside: the class's and the String constants' own arrays -/
def am_words : List (List Int32) := [[115, 116, 117, 102, 102], [99, 101, 108, 108], [112, 108, 97, 110], [108, 97, 121], [115, 105, 100, 101], [115, 112, 114, 97, 121], [104, 111, 117, 114, 115]]
def am_above : List Int32 := [-1, 0, 0, 1, 0, 4, 2]
def am_bodies : List Int32 := [10, 20, 0, 0, 51, 0, 70, 11, 0, 30, 40, 0, 0, 71, 12, 0, 0, 0, 50, 60, 0]
def am_nthL : List (List Int32) → Nat → List Int32
  | [], _ => []
  | x :: _, 0 => x
  | _ :: r, n + 1 => am_nthL r n
def am_nthI : List Int32 → Nat → Int32
  | [], _ => 0
  | x :: _, 0 => x
  | _ :: r, n + 1 => am_nthI r n
def am_len : List Int32 → Nat
  | [] => 0
  | _ :: r => am_len r + 1
def am_xl (h : Nat) : List Int32 := bif Nat.beq h 2000 then am_above else bif Nat.beq h 2001 then am_bodies else []
def am_go (nx : Nat) (ls st : List Value) (M : am_M) : am_O := some (.inl (nx, ls, st, M))
def am_brk (p : Prop) [Decidable p] (c1 c2 : am_C) : am_O := if p then some (.inl c1) else some (.inl c2)
def am_grd (p : Prop) [Decidable p] (o : am_O) : am_O := if p then o else none
def am_tgt (x : Int32) : List (Int32 × Nat) → Nat → Nat
  | [], d => d
  | (v, t) :: r, d => if x = v then t else am_tgt x r d
def am_swo (x : Int32) (L : List (Int32 × Nat)) (d : Nat) (ls st : List Value) (M : am_M) : am_O := some (.inl (am_tgt x L d, ls, st, M))
def am_ldi (nx : Nat) (D : List Nat) (ls st : List Value) (M : am_M) : am_O := match D with
  | [i] => (match am_get ls i with
    | .int x => am_go nx ls (.int x :: st) M
    | _ => none)
  | _ => none
def am_ldl (nx : Nat) (D : List Nat) (ls st : List Value) (M : am_M) : am_O := match D with
  | [i] => (match am_get ls i with
    | .long x => am_go nx ls (.long x :: st) M
    | _ => none)
  | _ => none
def am_lda (nx : Nat) (D : List Nat) (ls st : List Value) (M : am_M) : am_O := match D with
  | [i] => (match am_get ls i with
    | .ref x => am_go nx ls (.ref x :: st) M
    | .null => am_go nx ls (.null :: st) M
    | _ => none)
  | _ => none
def am_sti (nx : Nat) (D : List Nat) (ls st : List Value) (M : am_M) : am_O := match D with
  | [i] => (match st with
    | .int x :: r => am_set ls i (.int x) (fun t => am_go nx t r M)
    | _ => none)
  | _ => none
def am_sta (nx : Nat) (D : List Nat) (ls st : List Value) (M : am_M) : am_O := match D with
  | [i] => (match st with
    | .ref x :: r => am_set ls i (.ref x) (fun t => am_go nx t r M)
    | .null :: r => am_set ls i .null (fun t => am_go nx t r M)
    | _ => none)
  | _ => none
def am_cst (nx : Nat) (L : List (Int32 × Nat)) (ls st : List Value) (M : am_M) : am_O := match L with
  | [(v, _)] => am_go nx ls (.int v :: st) M
  | _ => none
def am_getf (nx : Nat) (D : List Nat) (ls st : List Value) (M : am_M) : am_O := match D, st, M with
  | [ci, k, ty, _], .ref h :: r, (tg, I, J, R) => (match am_nth tg h with
    | (kd, n) => bif Nat.beq kd ci && Nat.blt k n then (match ty with
        | 0 => am_go nx ls (.int (I h k) :: r) (tg, I, J, R)
        | 1 => (match R h k with
          | .ref x => am_go nx ls (.ref x :: r) (tg, I, J, R)
          | .null => am_go nx ls (.null :: r) (tg, I, J, R)
          | _ => none)
        | _ => none)
      else bif Nat.ble 1000 h && Nat.ble h 1006 then (match ty with
        | 2 => am_go nx ls (.ref (h + 100) :: r) (tg, I, J, R)
        | 3 => am_go nx ls (.int 0 :: r) (tg, I, J, R)
        | _ => none)
      else none)
  | _, _, _ => none
def am_putf (nx : Nat) (D : List Nat) (ls st : List Value) (M : am_M) : am_O := match D, st, M with
  | [ci, k, ty, _], v :: .ref h :: r, (tg, I, J, R) => (match am_nth tg h with
    | (kd, n) => bif Nat.beq kd ci && Nat.blt k n then (match ty, v with
        | 0, .int x => am_go nx ls r (tg, am_upI I h k x, J, R)
        | 1, .ref x => am_go nx ls r (tg, I, J, am_upR R h k (.ref x))
        | 2, .int x => am_grd (x = 0 ∨ x = 1) (am_go nx ls r (tg, am_upI I h k x, J, R))
        | _, _ => none)
      else none)
  | _, _, _ => none
def am_aldi (nx : Nat) (ls st : List Value) (M : am_M) : am_O := match st, M with
  | .int i :: .ref h :: r, (tg, I, J, R) => (match am_nth tg h with
    | (kd, n) => bif Nat.beq kd 50 then am_grd (¬ (i < 0 ∨ n ≤ i.toNatClampNeg)) (am_go nx ls (.int (I h i.toNatClampNeg) :: r) (tg, I, J, R))
      else bif Nat.beq kd 99 && (Nat.beq h 2000 || Nat.beq h 2001) then am_grd (¬ (i < 0 ∨ am_len (am_xl h) ≤ i.toNatClampNeg)) (am_go nx ls (.int (am_nthI (am_xl h) i.toNatClampNeg) :: r) (tg, I, J, R))
      else none)
  | _, _ => none
def am_aldb (nx : Nat) (ls st : List Value) (M : am_M) : am_O := match st, M with
  | .int i :: .ref h :: r, (tg, I, J, R) => bif Nat.ble 1100 h && Nat.ble h 1106 then am_grd (¬ (i < 0 ∨ am_len (am_nthL am_words (h - 1100)) ≤ i.toNatClampNeg)) (am_go nx ls (.int (am_nthI (am_nthL am_words (h - 1100)) i.toNatClampNeg) :: r) (tg, I, J, R)) else none
  | _, _ => none
def am_aldl (nx : Nat) (ls st : List Value) (M : am_M) : am_O := match st, M with
  | .int i :: .ref h :: r, (tg, I, J, R) => (match am_nth tg h with
    | (kd, n) => bif Nat.beq kd 51 then am_grd (¬ (i < 0 ∨ n ≤ i.toNatClampNeg)) (am_go nx ls (.long (J h i.toNatClampNeg) :: r) (tg, I, J, R)) else none)
  | _, _ => none
def am_alda (nx : Nat) (ls st : List Value) (M : am_M) : am_O := match st, M with
  | .int i :: .ref h :: r, (tg, I, J, R) => (match am_nth tg h with
    | (kd, n) => bif Nat.beq kd 52 then am_grd (¬ (i < 0 ∨ n ≤ i.toNatClampNeg)) (match R h i.toNatClampNeg with
        | .ref x => bif Nat.blt x 900 then am_go nx ls (.ref x :: r) (tg, I, J, R) else none
        | .null => am_go nx ls (.null :: r) (tg, I, J, R)
        | _ => none) else none)
  | _, _ => none
def am_asti (nx : Nat) (ls st : List Value) (M : am_M) : am_O := match st, M with
  | .int x :: .int i :: .ref h :: r, (tg, I, J, R) => (match am_nth tg h with
    | (kd, n) => bif Nat.beq kd 50 then am_grd (¬ (i < 0 ∨ n ≤ i.toNatClampNeg)) (am_go nx ls r (tg, am_upI I h i.toNatClampNeg x, J, R)) else none)
  | _, _ => none
def am_astl (nx : Nat) (ls st : List Value) (M : am_M) : am_O := match st, M with
  | .long x :: .int i :: .ref h :: r, (tg, I, J, R) => (match am_nth tg h with
    | (kd, n) => bif Nat.beq kd 51 then am_grd (¬ (i < 0 ∨ n ≤ i.toNatClampNeg)) (am_go nx ls r (tg, I, am_upJ J h i.toNatClampNeg x, R)) else none)
  | _, _ => none
def am_asta (nx : Nat) (ls st : List Value) (M : am_M) : am_O := match st, M with
  | .ref x :: .int i :: .ref h :: r, (tg, I, J, R) => (match am_nth tg h, am_nth tg x with
    | (kd, n), (kx, _) => bif Nat.beq kd 52 && Nat.beq kx 2 then am_grd (¬ (i < 0 ∨ n ≤ i.toNatClampNeg)) (am_go nx ls r (tg, I, J, am_upR R h i.toNatClampNeg (.ref x))) else none)
  | _, _ => none
def am_alen (nx : Nat) (ls st : List Value) (M : am_M) : am_O := match st, M with
  | .ref h :: r, (tg, I, J, R) => (match am_nth tg h with
    | (kd, n) => bif Nat.ble 50 kd && Nat.ble kd 52 then am_go nx ls (.int (Int32.ofNat n) :: r) (tg, I, J, R)
      else bif Nat.beq kd 99 && Nat.beq h 2000 then am_go nx ls (.int 7 :: r) (tg, I, J, R)
      else bif Nat.beq kd 99 && Nat.beq h 2001 then am_go nx ls (.int 21 :: r) (tg, I, J, R)
      else bif Nat.beq kd 99 && (Nat.ble 1100 h && Nat.ble h 1106) then am_go nx ls (.int (Int32.ofNat (am_len (am_nthL am_words (h - 1100)))) :: r) (tg, I, J, R)
      else none)
  | _, _ => none
def am_app : List (Nat × Nat) → Nat × Nat → List (Nat × Nat)
  | [], x => [x]
  | y :: r, x => y :: am_app r x
def am_cnt : List (Nat × Nat) → Nat
  | [] => 0
  | _ :: r => am_cnt r + 1
/-- new cells: only where all cells up to the heap's end are the memory's own -/
def am_new (nx : Nat) (D : List Nat) (ls st : List Value) (M : am_M) : am_O := match D, M with
  | [ci, n, _], (tg, I, J, R) => bif Nat.blt (am_cnt tg) 900 && Nat.blt ci 7 then am_go nx ls (.ref (am_cnt tg) :: st) (am_app tg (ci, n), am_rowI I (am_cnt tg), am_rowJ J (am_cnt tg), am_rowR R (am_cnt tg)) else none
  | _, _ => none
def am_newa (nx : Nat) (D : List Nat) (ls st : List Value) (M : am_M) : am_O := match D, st, M with
  | [kd, _], .int n :: r, (tg, I, J, R) => bif Nat.blt (am_cnt tg) 900 && (Nat.ble 50 kd && Nat.ble kd 52) then am_grd (¬ n < 0 ∧ n.toNatClampNeg ≤ 2000) (am_go nx ls (.ref (am_cnt tg) :: r) (am_app tg (kd, n.toNatClampNeg), am_rowI I (am_cnt tg), am_rowJ J (am_cnt tg), am_rowR R (am_cnt tg))) else none
  | _, _, _ => none
def am_gets (nx : Nat) (D : List Nat) (ls st : List Value) (M : am_M) : am_O := match D with
  | [0, _] => am_go nx ls (.ref 2000 :: st) M
  | [1, _] => am_go nx ls (.ref 2001 :: st) M
  | [2, _] => am_go nx ls (.int 1 :: st) M
  | [3, _] => am_go nx ls (.ref 2002 :: st) M
  | _ => none
def am_ldc (nx : Nat) (D : List Nat) (L : List (Int32 × Nat)) (ls st : List Value) (M : am_M) : am_O := match D, L with
  | [_], [(v, _)] => am_go nx ls (.int v :: st) M
  | [i, _], [] => bif Nat.ble i 6 then am_go nx ls (.ref (1000 + i) :: st) M else none
  | _, _ => none
def am_copy (nx : Nat) (ls st : List Value) (M : am_M) : am_O := match st, M with
  | .int n :: .int dp :: .ref h :: .int sp :: .ref g :: r, (tg, I, J, R) => bif Nat.ble (am_ws r) 8 then (match am_nth tg g, am_nth tg h with
    | (kg, ng), (kh, nh) => bif Nat.beq kg 50 && Nat.beq kh 50 then am_grd ((¬ sp < 0 ∧ ¬ dp < 0 ∧ ¬ n < 0) ∧ sp.toNatClampNeg + n.toNatClampNeg ≤ ng ∧ dp.toNatClampNeg + n.toNatClampNeg ≤ nh) (am_go nx ls r (tg, am_cpI I g h sp.toNatClampNeg dp.toNatClampNeg n.toNatClampNeg, J, R))
      else bif Nat.beq kg 51 && Nat.beq kh 51 then am_grd ((¬ sp < 0 ∧ ¬ dp < 0 ∧ ¬ n < 0) ∧ sp.toNatClampNeg + n.toNatClampNeg ≤ ng ∧ dp.toNatClampNeg + n.toNatClampNeg ≤ nh) (am_go nx ls r (tg, I, am_cpJ J g h sp.toNatClampNeg dp.toNatClampNeg n.toNatClampNeg, R))
      else none) else none
  | _, _ => none
def am_call (y mx nx : Nat) (ls as rest : List Value) (M : am_M) : am_O := some (.inr (.inl (y, am_loc mx as, (nx, ls, rest, M))))
/-- a call's kinds: 0 static, 1 virtual, 2 a constructor, 3 Object's own, 7 of a String constant, 8 and 9 max and min (6, arraycopy: ahead) -/
def am_inv2 (kd y mx ci nx : Nat) (ls as rest : List Value) (M : am_M) : am_O := match kd, as, M with
  | 0, as, M => am_call y mx nx ls as rest M
  | 1, .ref h :: as, (tg, I, J, R) => am_grd ((am_nth tg h).1 = ci) (am_call y mx nx ls (.ref h :: as) rest (tg, I, J, R))
  | 2, .ref h :: as, (tg, I, J, R) => am_grd ((am_nth tg h).1 = ci) (am_call y mx nx ls (.ref h :: as) rest (tg, I, J, R))
  | 8, [.int a, .int b], M => am_go nx ls (.int (if a < b then b else a) :: rest) M
  | 9, [.int a, .int b], M => am_go nx ls (.int (if b < a then b else a) :: rest) M
  | 3, [.ref h], (tg, I, J, R) => bif Nat.blt h (am_cnt tg) then am_go nx ls rest (tg, I, J, R) else none
  | 7, .ref h :: as, M => am_grd (1000 ≤ h ∧ h ≤ 1006) (am_call y mx nx ls (.ref h :: as) rest M)
  | _, _, _ => none
def am_inv (nx : Nat) (D : List Nat) (ls st : List Value) (M : am_M) : am_O := match D with
  | y :: kd :: n :: mx :: ci :: _ => bif Nat.beq kd 6 then am_copy nx ls st M else am_pop n st [] (fun as rest => bif Nat.ble (am_ws rest) 8 && (Nat.ble (am_ws as) mx || Nat.beq kd 3 || Nat.beq kd 8 || Nat.beq kd 9) then am_inv2 kd y mx ci nx ls as rest M else none)
  | _ => none
def am_ret (D : List Nat) (st : List Value) (M : am_M) : am_O := match D, st with
  | [0], [.int v] => some (.inr (.inr (some (.int v), M)))
  | [1], [.int v] => am_grd (v = 0 ∨ v = 1) (some (.inr (.inr (some (.int v), M))))
  | [2], [.int v] => am_grd ((v.toUInt32 % 65536).toInt32 = v) (some (.inr (.inr (some (.int v), M))))
  | [3], [.int v] => am_grd (v = 0) (some (.inr (.inr (some (.int v), M))))
  | _, _ => none
def am_sem (al : Bool) (i : Instr) (nx : Nat) (D : List Nat) (L : List (Int32 × Nat)) (ls st : List Value) (M : am_M) : am_O := match i with
  | .iload _ => am_ldi nx D ls st M
  | .iload_n _ => am_ldi nx D ls st M
  | .lload _ => am_ldl nx D ls st M
  | .lload_n _ => am_ldl nx D ls st M
  | .aload _ => am_lda nx D ls st M
  | .aload_n _ => am_lda nx D ls st M
  | .istore _ => am_sti nx D ls st M
  | .istore_n _ => am_sti nx D ls st M
  | .astore _ => am_sta nx D ls st M
  | .astore_n _ => am_sta nx D ls st M
  | .iconst _ => am_cst nx L ls st M
  | .bipush _ => am_cst nx L ls st M
  | .sipush _ => am_cst nx L ls st M
  | .lconst _ => (match D with
    | [0] => am_go nx ls (.long 0 :: st) M
    | _ => none)
  | .iinc _ _ => (match D, L with
    | [i], [(v, _)] => (match am_get ls i with
      | .int x => am_set ls i (.int (x + v)) (fun t => am_go nx t st M)
      | _ => none)
    | _, _ => none)
  | .iadd => (match st with
    | .int y :: .int x :: r => am_go nx ls (.int (x + y) :: r) M
    | _ => none)
  | .isub => (match st with
    | .int y :: .int x :: r => am_go nx ls (.int (x - y) :: r) M
    | _ => none)
  | .imul => (match st with
    | .int y :: .int x :: r => am_go nx ls (.int (x * y) :: r) M
    | _ => none)
  | .iand => (match st with
    | .int y :: .int x :: r => am_go nx ls (.int (x &&& y) :: r) M
    | _ => none)
  | .ior => (match st with
    | .int y :: .int x :: r => am_go nx ls (.int (x ||| y) :: r) M
    | _ => none)
  | .ixor => (match st with
    | .int y :: .int x :: r => am_go nx ls (.int (x ^^^ y) :: r) M
    | _ => none)
  | .ishl => (match st with
    | .int y :: .int x :: r => am_go nx ls (.int (x <<< (y &&& 31)) :: r) M
    | _ => none)
  | .ishr => (match st with
    | .int y :: .int x :: r => am_go nx ls (.int (x >>> (y &&& 31)) :: r) M
    | _ => none)
  | .iushr => (match st with
    | .int y :: .int x :: r => am_go nx ls (.int ((x.toUInt32 >>> (y.toUInt32 &&& Int32.toUInt32 31)).toInt32) :: r) M
    | _ => none)
  | .idiv => (match st with
    | .int y :: .int x :: r => am_grd (¬ y = 0) (am_go nx ls (.int (x / y) :: r) M)
    | _ => none)
  | .irem => (match st with
    | .int y :: .int x :: r => am_grd (¬ y = 0) (am_go nx ls (.int (x - x / y * y) :: r) M)
    | _ => none)
  | .ineg => (match st with
    | .int x :: r => am_go nx ls (.int (-x) :: r) M
    | _ => none)
  | .i2b => (match st with
    | .int x :: r => am_go nx ls (.int (x.toInt8.toInt32) :: r) M
    | _ => none)
  | .i2s => (match st with
    | .int x :: r => am_go nx ls (.int (x.toInt16.toInt32) :: r) M
    | _ => none)
  | .i2c => (match st with
    | .int x :: r => am_go nx ls (.int ((x.toUInt32 % 65536).toInt32) :: r) M
    | _ => none)
  | .i2l => (match st with
    | .int x :: r => am_go nx ls (.long x.toInt64 :: r) M
    | _ => none)
  | .l2i => (match st with
    | .long x :: r => am_go nx ls (.int x.toInt32 :: r) M
    | _ => none)
  | .dup => (match st with
    | .int x :: r => am_go nx ls (.int x :: .int x :: r) M
    | .ref x :: r => am_go nx ls (.ref x :: .ref x :: r) M
    | _ => none)
  | .dup_x1 => (match st with
    | .int x :: .ref y :: r => am_go nx ls (.int x :: .ref y :: .int x :: r) M
    | _ => none)
  | .dup2 => (match st with
    | .int x :: .ref y :: r => am_go nx ls (.int x :: .ref y :: .int x :: .ref y :: r) M
    | _ => none)
  | .pop => (match st with
    | .int _ :: r => am_go nx ls r M
    | _ => none)
  | .aconst_null => am_go nx ls (.null :: st) M
  | .ifCond .eq _ => (match D, st with
    | [t], .int x :: r => am_brk (x = 0) (t, ls, r, M) (nx, ls, r, M)
    | _, _ => none)
  | .ifCond .ne _ => (match D, st with
    | [t], .int x :: r => am_brk (¬ x = 0) (t, ls, r, M) (nx, ls, r, M)
    | _, _ => none)
  | .ifCond .lt _ => (match D, st with
    | [t], .int x :: r => am_brk (x < 0) (t, ls, r, M) (nx, ls, r, M)
    | _, _ => none)
  | .ifCond .ge _ => (match D, st with
    | [t], .int x :: r => am_brk (0 ≤ x) (t, ls, r, M) (nx, ls, r, M)
    | _, _ => none)
  | .ifCond .gt _ => (match D, st with
    | [t], .int x :: r => am_brk (0 < x) (t, ls, r, M) (nx, ls, r, M)
    | _, _ => none)
  | .ifCond .le _ => (match D, st with
    | [t], .int x :: r => am_brk (x ≤ 0) (t, ls, r, M) (nx, ls, r, M)
    | _, _ => none)
  | .if_icmp .eq _ => (match D, st with
    | [t], .int y :: .int x :: r => am_brk (x = y) (t, ls, r, M) (nx, ls, r, M)
    | _, _ => none)
  | .if_icmp .ne _ => (match D, st with
    | [t], .int y :: .int x :: r => am_brk (¬ x = y) (t, ls, r, M) (nx, ls, r, M)
    | _, _ => none)
  | .if_icmp .lt _ => (match D, st with
    | [t], .int y :: .int x :: r => am_brk (x < y) (t, ls, r, M) (nx, ls, r, M)
    | _, _ => none)
  | .if_icmp .ge _ => (match D, st with
    | [t], .int y :: .int x :: r => am_brk (y ≤ x) (t, ls, r, M) (nx, ls, r, M)
    | _, _ => none)
  | .if_icmp .gt _ => (match D, st with
    | [t], .int y :: .int x :: r => am_brk (y < x) (t, ls, r, M) (nx, ls, r, M)
    | _, _ => none)
  | .if_icmp .le _ => (match D, st with
    | [t], .int y :: .int x :: r => am_brk (x ≤ y) (t, ls, r, M) (nx, ls, r, M)
    | _, _ => none)
  | .ifnull _ => (match D, st with
    | [_], .ref x :: r => am_grd (x < 900) (am_go nx ls r M)
    | [t], .null :: r => am_go t ls r M
    | _, _ => none)
  | .ifnonnull _ => (match D, st with
    | [t], .ref x :: r => am_grd (x < 900) (am_go t ls r M)
    | [_], .null :: r => am_go nx ls r M
    | _, _ => none)
  | .goto _ => (match D with
    | [t] => am_go t ls st M
    | _ => none)
  | .tableswitch _ _ _ _ => (match D, st with
    | [d], .int x :: r => am_swo x L d ls r M
    | _, _ => none)
  | .lookupswitch _ _ => (match D, st with
    | [d], .int x :: r => am_swo x L d ls r M
    | _, _ => none)
  | .getfield _ => am_getf nx D ls st M
  | .putfield _ => am_putf nx D ls st M
  | .getstatic _ => am_gets nx D ls st M
  | .ldc _ => am_ldc nx D L ls st M
  | .iaload => am_aldi nx ls st M
  | .baload => am_aldb nx ls st M
  | .laload => am_aldl nx ls st M
  | .aaload => am_alda nx ls st M
  | .iastore => am_asti nx ls st M
  | .lastore => am_astl nx ls st M
  | .aastore => am_asta nx ls st M
  | .arraylength => am_alen nx ls st M
  | .new _ => bif al then am_new nx D ls st M else none
  | .newarray _ => bif al then am_newa nx D ls st M else none
  | .anewarray _ => bif al then am_newa nx D ls st M else none
  | .invokevirtual _ => am_inv nx D ls st M
  | .invokespecial _ => am_inv nx D ls st M
  | .invokestatic _ => am_inv nx D ls st M
  | .ireturn => am_ret D st M
  | .lreturn => (match st with
    | [.long v] => some (.inr (.inr (some (.long v), M)))
    | _ => none)
  | .areturn => (match st with
    | [.ref v] => some (.inr (.inr (some (.ref v), M)))
    | [.null] => some (.inr (.inr (some .null, M)))
    | _ => none)
  | .return_ => (match st with
    | [] => some (.inr (.inr (none, M)))
    | _ => none)
  | _ => none
def am_find : List am_I → Nat → Option am_I
  | [], _ => none
  | e :: r, pc => bif Nat.beq e.1 pc then some e else am_find r pc
