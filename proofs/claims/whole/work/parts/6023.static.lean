theorem am_chk_144 : (List.range 6).all (fun i => am_chk (144 + i)) = true := by decide +kernel
theorem am_chk_150 : (List.range 6).all (fun i => am_chk (150 + i)) = true := by decide +kernel
theorem am_chk_156 : (List.range 6).all (fun i => am_chk (156 + i)) = true := by decide +kernel
theorem am_chk_162 : (List.range 6).all (fun i => am_chk (162 + i)) = true := by decide +kernel
