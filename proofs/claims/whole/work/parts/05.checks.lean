theorem ar_every (y : Nat) (hy : y < am_N) : ar_all y = true := sorry
