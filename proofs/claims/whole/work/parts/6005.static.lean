theorem am_mok_60 : (List.range 30).all (fun i => am_mok (60 + i)) = true := by decide +kernel
