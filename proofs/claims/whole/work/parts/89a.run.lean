/-! Both constructors, run. -/
theorem c_run_ok : c_run = true := by decide +kernel
