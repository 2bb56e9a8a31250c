theorem am_chkL_17 : am_t231_17.all (am_sb 231) = true := by decide +kernel
