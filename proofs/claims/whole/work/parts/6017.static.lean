theorem am_chk_0 : (List.range 6).all (fun i => am_chk (0 + i)) = true := by decide +kernel
theorem am_chk_6 : (List.range 6).all (fun i => am_chk (6 + i)) = true := by decide +kernel
theorem am_chk_12 : (List.range 6).all (fun i => am_chk (12 + i)) = true := by decide +kernel
theorem am_chk_18 : (List.range 6).all (fun i => am_chk (18 + i)) = true := by decide +kernel
