theorem am_fl_ok : am_fl.all (fun e => decide (lw_tbl[e.2.2.2]? = some (.fieldLink (am_on e.1) e.2.1 (am_T e.2.2.1).1 (am_T e.2.2.1).2.1 (am_T e.2.2.1).2.2.1))) = true := by decide +kernel
theorem am_mll_ok : am_mll.all (fun e => decide (lw_tbl[e.2.2.2]? = some (.methodLink (am_on e.1) e.2.1 (am_y e.2.2.1)))) = true := by decide +kernel
theorem am_cll_ok : am_cll.all (fun e => decide (lw_tbl[e.2.2.2]? = some (.methodLink (am_on e.1) e.2.1 arraycopyName))) = true := by decide +kernel
theorem am_kcl_ok : am_kcl.all (fun e => decide (lw_tbl[e.2.2.2]? = some (.constant (am_on e.1) e.2.1 (Int32.ofInt e.2.2.1)))) = true := by decide +kernel
theorem am_kll_ok : am_kll.all (fun e => decide (lw_tbl[e.2.2.2]? = some (.constantLong (am_on e.1) e.2.1 (Int64.ofInt e.2.2.1)))) = true := by decide +kernel
theorem am_gl_ok : am_gl.all (fun e => decide (2001 ≤ e.2.2.1 ∧ e.2.2.1 < 2004) && decide (lw_tbl[e.2.2.2]? = some (.fieldLink (am_on e.1) e.2.1 (am_stn e.2.2.1).1 (am_stn e.2.2.1).2 "[I"))) = true := by decide +kernel
theorem am_copyw : (Cond.native arraycopyName ∈ lw_tbl ∧ Cond.static arraycopyName ∈ lw_tbl ∧ Cond.initialized "java/lang/System" ∈ lw_tbl) ∧ Cond.arrayClass .int ∈ lw_tbl := by decide +kernel
