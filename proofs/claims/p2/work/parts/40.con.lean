/-! promises -/
theorem kDummy : True := trivial
