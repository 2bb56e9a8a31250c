theorem am_mok_90 : (List.range 30).all (fun i => am_mok (90 + i)) = true := by decide +kernel
