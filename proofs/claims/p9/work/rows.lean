section
/-! a name of the rest of the library, to have the whole of it from the first round on -/
theorem rk_probe : True := by
  have := @Jvm.Free.Multi.outerC
  trivial
end
