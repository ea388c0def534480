/-- (names a row of the whole library, so that the rounds are read over it from the first part on) -/
theorem vx_wide : True := by
  have _h := @Jvm.Stand.thenCaughtThrough
  trivial
