/-- a name of the wide library, so that a round reads that at once -/
theorem wide_nm : @Jvm.Free.Multi.outerC = @Jvm.Free.Multi.outerC := rfl
