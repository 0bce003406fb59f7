theorem zz_1 : True := by
  have := @r_met
  have := @r_callV
  trivial
