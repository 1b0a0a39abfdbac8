/-! the rows on caught exceptions need the whole library: a name of it, ahead of all -/
theorem wide_0 : True := (fun _ => trivial) @Jvm.Stand.thenCaughtThrough
