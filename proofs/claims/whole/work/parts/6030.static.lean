theorem am_chkL_13 : am_t231_13.all (am_sb 231) = true := by decide +kernel
theorem am_chkL_14 : am_t231_14.all (am_sb 231) = true := by decide +kernel
theorem am_chkL_15 : am_t231_15.all (am_sb 231) = true := by decide +kernel
theorem am_chkL_16 : am_t231_16.all (am_sb 231) = true := by decide +kernel
