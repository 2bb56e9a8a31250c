theorem am_cw_30 : lw_tbl[1064]? = some (.code (am_y 30) (am_by 30) (am_ml 30) (am_rt 30)) := by decide +kernel
theorem am_cw_31 : lw_tbl[435]? = some (.code (am_y 31) (am_by 31) (am_ml 31) (am_rt 31)) := by decide +kernel
theorem am_cw_32 : lw_tbl[1068]? = some (.code (am_y 32) (am_by 32) (am_ml 32) (am_rt 32)) := by decide +kernel
theorem am_cw_33 : lw_tbl[1072]? = some (.code (am_y 33) (am_by 33) (am_ml 33) (am_rt 33)) := by decide +kernel
theorem am_cw_34 : lw_tbl[1076]? = some (.code (am_y 34) (am_by 34) (am_ml 34) (am_rt 34)) := by decide +kernel
theorem am_cw_35 : lw_tbl[1108]? = some (.code (am_y 35) (am_by 35) (am_ml 35) (am_rt 35)) := by decide +kernel
theorem am_cw_36 : lw_tbl[426]? = some (.code (am_y 36) (am_by 36) (am_ml 36) (am_rt 36)) := by decide +kernel
theorem am_cw_37 : lw_tbl[450]? = some (.code (am_y 37) (am_by 37) (am_ml 37) (am_rt 37)) := by decide +kernel
theorem am_cw_38 : lw_tbl[477]? = some (.code (am_y 38) (am_by 38) (am_ml 38) (am_rt 38)) := by decide +kernel
theorem am_cw_39 : lw_tbl[442]? = some (.code (am_y 39) (am_by 39) (am_ml 39) (am_rt 39)) := by decide +kernel
theorem am_cw_40 : lw_tbl[1080]? = some (.code (am_y 40) (am_by 40) (am_ml 40) (am_rt 40)) := by decide +kernel
theorem am_cw_41 : lw_tbl[797]? = some (.code (am_y 41) (am_by 41) (am_ml 41) (am_rt 41)) := by decide +kernel
theorem am_cw_42 : lw_tbl[803]? = some (.code (am_y 42) (am_by 42) (am_ml 42) (am_rt 42)) := by decide +kernel
theorem am_cw_43 : lw_tbl[919]? = some (.code (am_y 43) (am_by 43) (am_ml 43) (am_rt 43)) := by decide +kernel
theorem am_cw_44 : lw_tbl[807]? = some (.code (am_y 44) (am_by 44) (am_ml 44) (am_rt 44)) := by decide +kernel
theorem am_cw_45 : lw_tbl[459]? = some (.code (am_y 45) (am_by 45) (am_ml 45) (am_rt 45)) := by decide +kernel
theorem am_cw_46 : lw_tbl[1084]? = some (.code (am_y 46) (am_by 46) (am_ml 46) (am_rt 46)) := by decide +kernel
theorem am_cw_47 : lw_tbl[1088]? = some (.code (am_y 47) (am_by 47) (am_ml 47) (am_rt 47)) := by decide +kernel
theorem am_cw_48 : lw_tbl[481]? = some (.code (am_y 48) (am_by 48) (am_ml 48) (am_rt 48)) := by decide +kernel
theorem am_cw_49 : lw_tbl[497]? = some (.code (am_y 49) (am_by 49) (am_ml 49) (am_rt 49)) := by decide +kernel
theorem am_cw_50 : lw_tbl[493]? = some (.code (am_y 50) (am_by 50) (am_ml 50) (am_rt 50)) := by decide +kernel
theorem am_cw_51 : lw_tbl[882]? = some (.code (am_y 51) (am_by 51) (am_ml 51) (am_rt 51)) := by decide +kernel
theorem am_cw_52 : lw_tbl[1025]? = some (.code (am_y 52) (am_by 52) (am_ml 52) (am_rt 52)) := by decide +kernel
theorem am_cw_53 : lw_tbl[886]? = some (.code (am_y 53) (am_by 53) (am_ml 53) (am_rt 53)) := by decide +kernel
theorem am_cw_54 : lw_tbl[1047]? = some (.code (am_y 54) (am_by 54) (am_ml 54) (am_rt 54)) := by decide +kernel
theorem am_cw_55 : lw_tbl[894]? = some (.code (am_y 55) (am_by 55) (am_ml 55) (am_rt 55)) := by decide +kernel
theorem am_cw_56 : lw_tbl[1039]? = some (.code (am_y 56) (am_by 56) (am_ml 56) (am_rt 56)) := by decide +kernel
theorem am_cw_57 : lw_tbl[898]? = some (.code (am_y 57) (am_by 57) (am_ml 57) (am_rt 57)) := by decide +kernel
theorem am_cw_58 : lw_tbl[1051]? = some (.code (am_y 58) (am_by 58) (am_ml 58) (am_rt 58)) := by decide +kernel
theorem am_cw_59 : lw_tbl[1055]? = some (.code (am_y 59) (am_by 59) (am_ml 59) (am_rt 59)) := by decide +kernel
theorem am_cwC_30 : ∀ i, i < 30 → Cond.code (am_y (30 + i)) (am_by (30 + i)) (am_ml (30 + i)) (am_rt (30 + i)) ∈ lw_tbl := by
  intro i hi
  match i, hi with
  | 0, _ => exact List.mem_of_getElem? am_cw_30
  | 1, _ => exact List.mem_of_getElem? am_cw_31
  | 2, _ => exact List.mem_of_getElem? am_cw_32
  | 3, _ => exact List.mem_of_getElem? am_cw_33
  | 4, _ => exact List.mem_of_getElem? am_cw_34
  | 5, _ => exact List.mem_of_getElem? am_cw_35
  | 6, _ => exact List.mem_of_getElem? am_cw_36
  | 7, _ => exact List.mem_of_getElem? am_cw_37
  | 8, _ => exact List.mem_of_getElem? am_cw_38
  | 9, _ => exact List.mem_of_getElem? am_cw_39
  | 10, _ => exact List.mem_of_getElem? am_cw_40
  | 11, _ => exact List.mem_of_getElem? am_cw_41
  | 12, _ => exact List.mem_of_getElem? am_cw_42
  | 13, _ => exact List.mem_of_getElem? am_cw_43
  | 14, _ => exact List.mem_of_getElem? am_cw_44
  | 15, _ => exact List.mem_of_getElem? am_cw_45
  | 16, _ => exact List.mem_of_getElem? am_cw_46
  | 17, _ => exact List.mem_of_getElem? am_cw_47
  | 18, _ => exact List.mem_of_getElem? am_cw_48
  | 19, _ => exact List.mem_of_getElem? am_cw_49
  | 20, _ => exact List.mem_of_getElem? am_cw_50
  | 21, _ => exact List.mem_of_getElem? am_cw_51
  | 22, _ => exact List.mem_of_getElem? am_cw_52
  | 23, _ => exact List.mem_of_getElem? am_cw_53
  | 24, _ => exact List.mem_of_getElem? am_cw_54
  | 25, _ => exact List.mem_of_getElem? am_cw_55
  | 26, _ => exact List.mem_of_getElem? am_cw_56
  | 27, _ => exact List.mem_of_getElem? am_cw_57
  | 28, _ => exact List.mem_of_getElem? am_cw_58
  | 29, _ => exact List.mem_of_getElem? am_cw_59
  | i + 30, hi => omega
