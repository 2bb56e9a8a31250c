theorem am_chk_24 : (List.range 6).all (fun i => am_chk (24 + i)) = true := by decide +kernel
theorem am_chk_30 : (List.range 6).all (fun i => am_chk (30 + i)) = true := by decide +kernel
theorem am_chk_36 : (List.range 6).all (fun i => am_chk (36 + i)) = true := by decide +kernel
theorem am_chk_42 : (List.range 6).all (fun i => am_chk (42 + i)) = true := by decide +kernel
