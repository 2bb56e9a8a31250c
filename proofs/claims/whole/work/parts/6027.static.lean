theorem am_chkL_1 : am_t231_1.all (am_sb 231) = true := by decide +kernel
theorem am_chkL_2 : am_t231_2.all (am_sb 231) = true := by decide +kernel
theorem am_chkL_3 : am_t231_3.all (am_sb 231) = true := by decide +kernel
theorem am_chkL_4 : am_t231_4.all (am_sb 231) = true := by decide +kernel
