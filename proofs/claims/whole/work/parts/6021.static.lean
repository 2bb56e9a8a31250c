theorem am_chk_96 : (List.range 6).all (fun i => am_chk (96 + i)) = true := by decide +kernel
theorem am_chk_102 : (List.range 6).all (fun i => am_chk (102 + i)) = true := by decide +kernel
theorem am_chk_108 : (List.range 6).all (fun i => am_chk (108 + i)) = true := by decide +kernel
theorem am_chk_114 : (List.range 6).all (fun i => am_chk (114 + i)) = true := by decide +kernel
