/-! this claim is read over the whole library: a round finds that out here, at its first row -/
theorem zz_wide : @Jvm.Free.Multi.outerC = @Jvm.Free.Multi.outerC := rfl
