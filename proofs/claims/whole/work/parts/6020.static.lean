theorem am_chk_72 : (List.range 6).all (fun i => am_chk (72 + i)) = true := by decide +kernel
theorem am_chk_78 : (List.range 6).all (fun i => am_chk (78 + i)) = true := by decide +kernel
theorem am_chk_84 : (List.range 6).all (fun i => am_chk (84 + i)) = true := by decide +kernel
theorem am_chk_90 : (List.range 6).all (fun i => am_chk (90 + i)) = true := by decide +kernel
