theorem am_chk_120 : (List.range 6).all (fun i => am_chk (120 + i)) = true := by decide +kernel
theorem am_chk_126 : (List.range 6).all (fun i => am_chk (126 + i)) = true := by decide +kernel
theorem am_chk_132 : (List.range 6).all (fun i => am_chk (132 + i)) = true := by decide +kernel
theorem am_chk_138 : (List.range 6).all (fun i => am_chk (138 + i)) = true := by decide +kernel
