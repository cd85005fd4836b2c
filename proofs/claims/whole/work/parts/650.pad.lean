/-! (nothing yet) -/
theorem lw_last : True := trivial
