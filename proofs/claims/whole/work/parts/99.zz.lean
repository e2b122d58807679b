theorem zz_last : True := by
  have h1 := @go_ok
  have h2 := @runs_ok
  have h3 := @T_wood
  trivial
