/-- names a row of the library's rest, so that a round reads the whole of it (exceptions that are caught, new T[n][m]) -/
theorem pm_wide (c : ClassId) (n h : Nat) : Jvm.Free.Multi.outerC c n h 0 = Jvm.Free.Multi.outerC c n h 0 := rfl
