/-! M1: the normal forms are the same, for up to six rows -/
theorem m1_1 : m1ok 1 = true := by decide +kernel
theorem m1_2 : m1ok 2 = true := by decide +kernel
theorem m1_3 : m1ok 3 = true := by decide +kernel
theorem m1_4 : m1ok 4 = true := by decide +kernel
theorem m1_5 : m1ok 5 = true := by decide +kernel
theorem m1_6 : m1ok 6 = true := by decide +kernel
