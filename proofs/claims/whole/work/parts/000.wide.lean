theorem zz_wide : True := by
  have := @Stand.thenCaughtThrough
  trivial
