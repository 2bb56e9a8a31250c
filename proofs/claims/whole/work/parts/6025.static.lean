theorem am_chk_192 : (List.range 6).all (fun i => am_chk (192 + i)) = true := by decide +kernel
theorem am_chk_198 : (List.range 6).all (fun i => am_chk (198 + i)) = true := by decide +kernel
theorem am_chk_204 : (List.range 6).all (fun i => am_chk (204 + i)) = true := by decide +kernel
theorem am_chk_210 : (List.range 6).all (fun i => am_chk (210 + i)) = true := by decide +kernel
