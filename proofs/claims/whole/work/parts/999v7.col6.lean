/-! and for six rows -/
theorem nc_6 : ncok 6 = true := by decide +kernel
