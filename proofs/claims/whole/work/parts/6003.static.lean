theorem am_mok_30 : (List.range 30).all (fun i => am_mok (30 + i)) = true := by decide +kernel
