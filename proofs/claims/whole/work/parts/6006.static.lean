theorem am_cw_60 : lw_tbl[703]? = some (.code (am_y 60) (am_by 60) (am_ml 60) (am_rt 60)) := by decide +kernel
theorem am_cw_61 : lw_tbl[691]? = some (.code (am_y 61) (am_by 61) (am_ml 61) (am_rt 61)) := by decide +kernel
theorem am_cw_62 : lw_tbl[695]? = some (.code (am_y 62) (am_by 62) (am_ml 62) (am_rt 62)) := by decide +kernel
theorem am_cw_63 : lw_tbl[717]? = some (.code (am_y 63) (am_by 63) (am_ml 63) (am_rt 63)) := by decide +kernel
theorem am_cw_64 : lw_tbl[732]? = some (.code (am_y 64) (am_by 64) (am_ml 64) (am_rt 64)) := by decide +kernel
theorem am_cw_65 : lw_tbl[749]? = some (.code (am_y 65) (am_by 65) (am_ml 65) (am_rt 65)) := by decide +kernel
theorem am_cw_66 : lw_tbl[753]? = some (.code (am_y 66) (am_by 66) (am_ml 66) (am_rt 66)) := by decide +kernel
theorem am_cw_67 : lw_tbl[980]? = some (.code (am_y 67) (am_by 67) (am_ml 67) (am_rt 67)) := by decide +kernel
theorem am_cw_68 : lw_tbl[984]? = some (.code (am_y 68) (am_by 68) (am_ml 68) (am_rt 68)) := by decide +kernel
theorem am_cw_69 : lw_tbl[972]? = some (.code (am_y 69) (am_by 69) (am_ml 69) (am_rt 69)) := by decide +kernel
theorem am_cw_70 : lw_tbl[422]? = some (.code (am_y 70) (am_by 70) (am_ml 70) (am_rt 70)) := by decide +kernel
theorem am_cw_71 : lw_tbl[505]? = some (.code (am_y 71) (am_by 71) (am_ml 71) (am_rt 71)) := by decide +kernel
theorem am_cw_72 : lw_tbl[617]? = some (.code (am_y 72) (am_by 72) (am_ml 72) (am_rt 72)) := by decide +kernel
theorem am_cw_73 : lw_tbl[1243]? = some (.code (am_y 73) (am_by 73) (am_ml 73) (am_rt 73)) := by decide +kernel
theorem am_cw_74 : lw_tbl[1236]? = some (.code (am_y 74) (am_by 74) (am_ml 74) (am_rt 74)) := by decide +kernel
theorem am_cw_75 : lw_tbl[1417]? = some (.code (am_y 75) (am_by 75) (am_ml 75) (am_rt 75)) := by decide +kernel
theorem am_cw_76 : lw_tbl[1262]? = some (.code (am_y 76) (am_by 76) (am_ml 76) (am_rt 76)) := by decide +kernel
theorem am_cw_77 : lw_tbl[1249]? = some (.code (am_y 77) (am_by 77) (am_ml 77) (am_rt 77)) := by decide +kernel
theorem am_cw_78 : lw_tbl[1287]? = some (.code (am_y 78) (am_by 78) (am_ml 78) (am_rt 78)) := by decide +kernel
theorem am_cw_79 : lw_tbl[1302]? = some (.code (am_y 79) (am_by 79) (am_ml 79) (am_rt 79)) := by decide +kernel
theorem am_cw_80 : lw_tbl[1298]? = some (.code (am_y 80) (am_by 80) (am_ml 80) (am_rt 80)) := by decide +kernel
theorem am_cw_81 : lw_tbl[1369]? = some (.code (am_y 81) (am_by 81) (am_ml 81) (am_rt 81)) := by decide +kernel
theorem am_cw_82 : lw_tbl[1413]? = some (.code (am_y 82) (am_by 82) (am_ml 82) (am_rt 82)) := by decide +kernel
theorem am_cw_83 : lw_tbl[1433]? = some (.code (am_y 83) (am_by 83) (am_ml 83) (am_rt 83)) := by decide +kernel
theorem am_cw_84 : lw_tbl[1460]? = some (.code (am_y 84) (am_by 84) (am_ml 84) (am_rt 84)) := by decide +kernel
theorem am_cw_85 : lw_tbl[1456]? = some (.code (am_y 85) (am_by 85) (am_ml 85) (am_rt 85)) := by decide +kernel
theorem am_cw_86 : lw_tbl[940]? = some (.code (am_y 86) (am_by 86) (am_ml 86) (am_rt 86)) := by decide +kernel
theorem am_cw_87 : lw_tbl[602]? = some (.code (am_y 87) (am_by 87) (am_ml 87) (am_rt 87)) := by decide +kernel
theorem am_cw_88 : lw_tbl[489]? = some (.code (am_y 88) (am_by 88) (am_ml 88) (am_rt 88)) := by decide +kernel
theorem am_cw_89 : lw_tbl[578]? = some (.code (am_y 89) (am_by 89) (am_ml 89) (am_rt 89)) := by decide +kernel
theorem am_cwC_60 : ∀ i, i < 30 → Cond.code (am_y (60 + i)) (am_by (60 + i)) (am_ml (60 + i)) (am_rt (60 + i)) ∈ lw_tbl := by
  intro i hi
  match i, hi with
  | 0, _ => exact List.mem_of_getElem? am_cw_60
  | 1, _ => exact List.mem_of_getElem? am_cw_61
  | 2, _ => exact List.mem_of_getElem? am_cw_62
  | 3, _ => exact List.mem_of_getElem? am_cw_63
  | 4, _ => exact List.mem_of_getElem? am_cw_64
  | 5, _ => exact List.mem_of_getElem? am_cw_65
  | 6, _ => exact List.mem_of_getElem? am_cw_66
  | 7, _ => exact List.mem_of_getElem? am_cw_67
  | 8, _ => exact List.mem_of_getElem? am_cw_68
  | 9, _ => exact List.mem_of_getElem? am_cw_69
  | 10, _ => exact List.mem_of_getElem? am_cw_70
  | 11, _ => exact List.mem_of_getElem? am_cw_71
  | 12, _ => exact List.mem_of_getElem? am_cw_72
  | 13, _ => exact List.mem_of_getElem? am_cw_73
  | 14, _ => exact List.mem_of_getElem? am_cw_74
  | 15, _ => exact List.mem_of_getElem? am_cw_75
  | 16, _ => exact List.mem_of_getElem? am_cw_76
  | 17, _ => exact List.mem_of_getElem? am_cw_77
  | 18, _ => exact List.mem_of_getElem? am_cw_78
  | 19, _ => exact List.mem_of_getElem? am_cw_79
  | 20, _ => exact List.mem_of_getElem? am_cw_80
  | 21, _ => exact List.mem_of_getElem? am_cw_81
  | 22, _ => exact List.mem_of_getElem? am_cw_82
  | 23, _ => exact List.mem_of_getElem? am_cw_83
  | 24, _ => exact List.mem_of_getElem? am_cw_84
  | 25, _ => exact List.mem_of_getElem? am_cw_85
  | 26, _ => exact List.mem_of_getElem? am_cw_86
  | 27, _ => exact List.mem_of_getElem? am_cw_87
  | 28, _ => exact List.mem_of_getElem? am_cw_88
  | 29, _ => exact List.mem_of_getElem? am_cw_89
  | i + 30, hi => omega
