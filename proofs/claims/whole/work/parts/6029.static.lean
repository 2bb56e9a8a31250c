theorem am_chkL_9 : am_t231_9.all (am_sb 231) = true := by decide +kernel
theorem am_chkL_10 : am_t231_10.all (am_sb 231) = true := by decide +kernel
theorem am_chkL_11 : am_t231_11.all (am_sb 231) = true := by decide +kernel
theorem am_chkL_12 : am_t231_12.all (am_sb 231) = true := by decide +kernel
