/-! a name of the library's last shelf: the round is read over the whole library from the first part on (else part 50 falls) -/
theorem wd_lib : True := by
  have _h := @Jvm.Stand.thenCaughtThrough
  trivial
