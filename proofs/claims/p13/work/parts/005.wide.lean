theorem vx_wide : True := by
  have h := @Jvm.Stand.thenCaughtThrough
  trivial
