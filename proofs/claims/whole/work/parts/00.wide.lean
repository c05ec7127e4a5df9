theorem wd_lib : True := by
  have h := @Jvm.Stand.thenCaughtThrough
  trivial
