theorem am_mok_150 : (List.range 30).all (fun i => am_mok (150 + i)) = true := by decide +kernel
