theorem am_chkL_5 : am_t231_5.all (am_sb 231) = true := by decide +kernel
theorem am_chkL_6 : am_t231_6.all (am_sb 231) = true := by decide +kernel
theorem am_chkL_7 : am_t231_7.all (am_sb 231) = true := by decide +kernel
theorem am_chkL_8 : am_t231_8.all (am_sb 231) = true := by decide +kernel
