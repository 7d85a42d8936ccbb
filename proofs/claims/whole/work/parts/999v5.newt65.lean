/-! the fifth -/
theorem nw_65 : nwS 6 5 = true := by decide +kernel
