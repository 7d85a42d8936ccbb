/-! the fourth -/
theorem nw_64 : nwS 6 4 = true := by decide +kernel
