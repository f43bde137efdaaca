/-! the constructors, run -/
theorem cm_t1 : (cm cmC cmL 3000 12 0 [some (.inr 999999), none, none, none] [] (0, []) 0).isSome = true := by decide +kernel
