/-! This claim is read over the whole library: the law catches what the class throws. -/
theorem w0_lib : True := by
  have _ := @Stand.thenCaughtThrough
  trivial
