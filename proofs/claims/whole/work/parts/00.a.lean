/-! the claim is read over the whole library: multianewarray's row wants it (A3.x6) -/
theorem zz_whole_lib : True := by
  have h1 := @Jvm.Free.Multi.fill_facts
  trivial
