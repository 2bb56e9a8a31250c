theorem am_mok_210 : (List.range 21).all (fun i => am_mok (210 + i)) = true := by decide +kernel
