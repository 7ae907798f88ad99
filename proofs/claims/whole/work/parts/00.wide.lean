/-- the shelf that part 17 reads -/
theorem shelf_read : True := by
  have := @Stand.thenCaughtThrough
  trivial
