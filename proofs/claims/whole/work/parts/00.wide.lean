/-- the rows of rows want the rest of the library -/
theorem zwide : True := by
  have _h := @Jvm.Stand.multianewarray2F
  trivial
