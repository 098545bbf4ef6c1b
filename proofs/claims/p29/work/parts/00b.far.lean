/-- names the far shelf's row that part 22 wants, so that a first round doesn't begin twice -/
theorem far_named : True := by
  have _h := @Stand.multianewarray2F
  trivial
