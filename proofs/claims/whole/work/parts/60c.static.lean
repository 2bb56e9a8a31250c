theorem am_chk_12 : (List.range 6).all (fun i => am_chk (12 + i)) = true := by decide +kernel
theorem am_chk_18 : (List.range 6).all (fun i => am_chk (18 + i)) = true := by decide +kernel
theorem am_chk_24 : (List.range 6).all (fun i => am_chk (24 + i)) = true := by decide +kernel
theorem am_chk_30 : (List.range 6).all (fun i => am_chk (30 + i)) = true := by decide +kernel
theorem am_chk_36 : (List.range 6).all (fun i => am_chk (36 + i)) = true := by decide +kernel
