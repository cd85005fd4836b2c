def TX : List (Nat × Nat) := [(5, 10), (52, 8), (1, 15), (50, 8), (50, 8), (50, 8), (50, 24), (50, 24), (50, 24), (50, 24), (50, 24), (50, 24), (1, 15), (50, 8), (50, 8), (50, 8), (50, 24), (50, 24), (50, 24), (50, 24), (50, 24), (50, 24), (1, 15), (50, 8), (50, 8), (50, 8), (50, 24), (50, 24), (50, 24), (50, 24), (50, 24), (50, 24), (3, 4), (50, 160), (4, 3), (50, 4), (50, 4), (50, 4), (0, 5), (50, 20), (50, 7), (2, 5), (51, 160), (2, 5), (51, 160), (2, 5), (51, 160), (2, 5), (51, 160), (2, 5), (51, 160), (2, 5), (51, 160), (2, 5), (51, 160), (2, 5), (51, 160)]
theorem t_isCell (c : Int32) (M : am_M) : am_E 0 nX7_isCell (0, [.int c], [], M) (fun v M' => v = some (.int (if 0 ≤ c ∧ c < 24 then 1 else 0)) ∧ M' = M) := by
  refine am_E.go (n := 40) rfl ?_
  refine am_E.brk rfl (fun h => ?_) (fun h => ?_)
  · trace_state
    sorry
  · sorry
theorem t_brown (c : Int32) (I : Nat → Nat → Int32) (J : Nat → Nat → Int64) (R : Nat → Nat → Value) : am_E 0 nX2_brown (0, [.int 3, .int c, .int c, .int c, .retAddr 0], [], (TX, I, J, R)) (fun v M' => v = some (.int (if 0 ≤ c ∧ c < 24 then 1 else 0))) := by
  refine am_E.go (n := 40) rfl ?_
  trace_state
  refine am_E.sw rfl ?_
  trace_state
  sorry
