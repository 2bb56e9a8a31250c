theorem am_chk_168 : (List.range 6).all (fun i => am_chk (168 + i)) = true := by decide +kernel
theorem am_chk_174 : (List.range 6).all (fun i => am_chk (174 + i)) = true := by decide +kernel
theorem am_chk_180 : (List.range 6).all (fun i => am_chk (180 + i)) = true := by decide +kernel
theorem am_chk_186 : (List.range 6).all (fun i => am_chk (186 + i)) = true := by decide +kernel
