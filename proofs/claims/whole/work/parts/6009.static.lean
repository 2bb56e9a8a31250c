theorem am_mok_120 : (List.range 30).all (fun i => am_mok (120 + i)) = true := by decide +kernel
