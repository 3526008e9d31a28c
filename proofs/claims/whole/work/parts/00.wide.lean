/- names a row of Shelf42: the first part of all sends a new machine's first round over the whole library at once -/
theorem wide_1 : True := by
  have _h := @Stand.multianewarray2F
  trivial
