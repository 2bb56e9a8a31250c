theorem am_chk_216 : (List.range 6).all (fun i => am_chk (216 + i)) = true := by decide +kernel
theorem am_chk_222 : (List.range 6).all (fun i => am_chk (222 + i)) = true := by decide +kernel
theorem am_chk_228 : (List.range 3).all (fun i => am_chk (228 + i)) = true := by decide +kernel
theorem am_chkL_0 : am_t231_0.all (am_sb 231) = true := by decide +kernel
