theorem am_mok_180 : (List.range 30).all (fun i => am_mok (180 + i)) = true := by decide +kernel
