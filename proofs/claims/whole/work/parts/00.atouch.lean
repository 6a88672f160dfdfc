theorem touch_lib : True := by
  have _h := @Stand.thenCaughtThrough
  trivial
