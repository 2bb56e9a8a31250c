theorem am_cw_0 : lw_tbl[621]? = some (.code (am_y 0) (am_by 0) (am_ml 0) (am_rt 0)) := by decide +kernel
theorem am_cw_1 : lw_tbl[633]? = some (.code (am_y 1) (am_by 1) (am_ml 1) (am_rt 1)) := by decide +kernel
theorem am_cw_2 : lw_tbl[625]? = some (.code (am_y 2) (am_by 2) (am_ml 2) (am_rt 2)) := by decide +kernel
theorem am_cw_3 : lw_tbl[1100]? = some (.code (am_y 3) (am_by 3) (am_ml 3) (am_rt 3)) := by decide +kernel
theorem am_cw_4 : lw_tbl[637]? = some (.code (am_y 4) (am_by 4) (am_ml 4) (am_rt 4)) := by decide +kernel
theorem am_cw_5 : lw_tbl[642]? = some (.code (am_y 5) (am_by 5) (am_ml 5) (am_rt 5)) := by decide +kernel
theorem am_cw_6 : lw_tbl[1104]? = some (.code (am_y 6) (am_by 6) (am_ml 6) (am_rt 6)) := by decide +kernel
theorem am_cw_7 : lw_tbl[650]? = some (.code (am_y 7) (am_by 7) (am_ml 7) (am_rt 7)) := by decide +kernel
theorem am_cw_8 : lw_tbl[669]? = some (.code (am_y 8) (am_by 8) (am_ml 8) (am_rt 8)) := by decide +kernel
theorem am_cw_9 : lw_tbl[512]? = some (.code (am_y 9) (am_by 9) (am_ml 9) (am_rt 9)) := by decide +kernel
theorem am_cw_10 : lw_tbl[516]? = some (.code (am_y 10) (am_by 10) (am_ml 10) (am_rt 10)) := by decide +kernel
theorem am_cw_11 : lw_tbl[528]? = some (.code (am_y 11) (am_by 11) (am_ml 11) (am_rt 11)) := by decide +kernel
theorem am_cw_12 : lw_tbl[520]? = some (.code (am_y 12) (am_by 12) (am_ml 12) (am_rt 12)) := by decide +kernel
theorem am_cw_13 : lw_tbl[1092]? = some (.code (am_y 13) (am_by 13) (am_ml 13) (am_rt 13)) := by decide +kernel
theorem am_cw_14 : lw_tbl[673]? = some (.code (am_y 14) (am_by 14) (am_ml 14) (am_rt 14)) := by decide +kernel
theorem am_cw_15 : lw_tbl[532]? = some (.code (am_y 15) (am_by 15) (am_ml 15) (am_rt 15)) := by decide +kernel
theorem am_cw_16 : lw_tbl[538]? = some (.code (am_y 16) (am_by 16) (am_ml 16) (am_rt 16)) := by decide +kernel
theorem am_cw_17 : lw_tbl[815]? = some (.code (am_y 17) (am_by 17) (am_ml 17) (am_rt 17)) := by decide +kernel
theorem am_cw_18 : lw_tbl[811]? = some (.code (am_y 18) (am_by 18) (am_ml 18) (am_rt 18)) := by decide +kernel
theorem am_cw_19 : lw_tbl[866]? = some (.code (am_y 19) (am_by 19) (am_ml 19) (am_rt 19)) := by decide +kernel
theorem am_cw_20 : lw_tbl[862]? = some (.code (am_y 20) (am_by 20) (am_ml 20) (am_rt 20)) := by decide +kernel
theorem am_cw_21 : lw_tbl[871]? = some (.code (am_y 21) (am_by 21) (am_ml 21) (am_rt 21)) := by decide +kernel
theorem am_cw_22 : lw_tbl[875]? = some (.code (am_y 22) (am_by 22) (am_ml 22) (am_rt 22)) := by decide +kernel
theorem am_cw_23 : lw_tbl[568]? = some (.code (am_y 23) (am_by 23) (am_ml 23) (am_rt 23)) := by decide +kernel
theorem am_cw_24 : lw_tbl[586]? = some (.code (am_y 24) (am_by 24) (am_ml 24) (am_rt 24)) := by decide +kernel
theorem am_cw_25 : lw_tbl[590]? = some (.code (am_y 25) (am_by 25) (am_ml 25) (am_rt 25)) := by decide +kernel
theorem am_cw_26 : lw_tbl[564]? = some (.code (am_y 26) (am_by 26) (am_ml 26) (am_rt 26)) := by decide +kernel
theorem am_cw_27 : lw_tbl[547]? = some (.code (am_y 27) (am_by 27) (am_ml 27) (am_rt 27)) := by decide +kernel
theorem am_cw_28 : lw_tbl[1096]? = some (.code (am_y 28) (am_by 28) (am_ml 28) (am_rt 28)) := by decide +kernel
theorem am_cw_29 : lw_tbl[610]? = some (.code (am_y 29) (am_by 29) (am_ml 29) (am_rt 29)) := by decide +kernel
theorem am_cwC_0 : ∀ i, i < 30 → Cond.code (am_y (0 + i)) (am_by (0 + i)) (am_ml (0 + i)) (am_rt (0 + i)) ∈ lw_tbl := by
  intro i hi
  match i, hi with
  | 0, _ => exact List.mem_of_getElem? am_cw_0
  | 1, _ => exact List.mem_of_getElem? am_cw_1
  | 2, _ => exact List.mem_of_getElem? am_cw_2
  | 3, _ => exact List.mem_of_getElem? am_cw_3
  | 4, _ => exact List.mem_of_getElem? am_cw_4
  | 5, _ => exact List.mem_of_getElem? am_cw_5
  | 6, _ => exact List.mem_of_getElem? am_cw_6
  | 7, _ => exact List.mem_of_getElem? am_cw_7
  | 8, _ => exact List.mem_of_getElem? am_cw_8
  | 9, _ => exact List.mem_of_getElem? am_cw_9
  | 10, _ => exact List.mem_of_getElem? am_cw_10
  | 11, _ => exact List.mem_of_getElem? am_cw_11
  | 12, _ => exact List.mem_of_getElem? am_cw_12
  | 13, _ => exact List.mem_of_getElem? am_cw_13
  | 14, _ => exact List.mem_of_getElem? am_cw_14
  | 15, _ => exact List.mem_of_getElem? am_cw_15
  | 16, _ => exact List.mem_of_getElem? am_cw_16
  | 17, _ => exact List.mem_of_getElem? am_cw_17
  | 18, _ => exact List.mem_of_getElem? am_cw_18
  | 19, _ => exact List.mem_of_getElem? am_cw_19
  | 20, _ => exact List.mem_of_getElem? am_cw_20
  | 21, _ => exact List.mem_of_getElem? am_cw_21
  | 22, _ => exact List.mem_of_getElem? am_cw_22
  | 23, _ => exact List.mem_of_getElem? am_cw_23
  | 24, _ => exact List.mem_of_getElem? am_cw_24
  | 25, _ => exact List.mem_of_getElem? am_cw_25
  | 26, _ => exact List.mem_of_getElem? am_cw_26
  | 27, _ => exact List.mem_of_getElem? am_cw_27
  | 28, _ => exact List.mem_of_getElem? am_cw_28
  | 29, _ => exact List.mem_of_getElem? am_cw_29
  | i + 30, hi => omega
