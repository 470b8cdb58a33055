/-! the end of the parts -/
theorem zz_end : True := trivial
