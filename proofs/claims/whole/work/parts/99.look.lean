theorem zz_look : True := by
  have h1 := @chg_put
  have h2 := @IV_ref
  have h3 := @st_owing
  trivial
theorem zz_bad : (1 : Int) = 2 := by
  have h1 := @TST_c
  skip
