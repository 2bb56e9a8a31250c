theorem am_mok_0 : (List.range 30).all (fun i => am_mok (0 + i)) = true := by decide +kernel
