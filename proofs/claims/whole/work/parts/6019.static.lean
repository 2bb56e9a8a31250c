theorem am_chk_48 : (List.range 6).all (fun i => am_chk (48 + i)) = true := by decide +kernel
theorem am_chk_54 : (List.range 6).all (fun i => am_chk (54 + i)) = true := by decide +kernel
theorem am_chk_60 : (List.range 6).all (fun i => am_chk (60 + i)) = true := by decide +kernel
theorem am_chk_66 : (List.range 6).all (fun i => am_chk (66 + i)) = true := by decide +kernel
