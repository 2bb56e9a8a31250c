theorem am_cw_90 : lw_tbl[665]? = some (.code (am_y 90) (am_by 90) (am_ml 90) (am_rt 90)) := by decide +kernel
theorem am_cw_91 : lw_tbl[1122]? = some (.code (am_y 91) (am_by 91) (am_ml 91) (am_rt 91)) := by decide +kernel
theorem am_cw_92 : lw_tbl[662]? = some (.code (am_y 92) (am_by 92) (am_ml 92) (am_rt 92)) := by decide +kernel
theorem am_cw_93 : lw_tbl[793]? = some (.code (am_y 93) (am_by 93) (am_ml 93) (am_rt 93)) := by decide +kernel
theorem am_cw_94 : lw_tbl[857]? = some (.code (am_y 94) (am_by 94) (am_ml 94) (am_rt 94)) := by decide +kernel
theorem am_cw_95 : lw_tbl[560]? = some (.code (am_y 95) (am_by 95) (am_ml 95) (am_rt 95)) := by decide +kernel
theorem am_cw_96 : lw_tbl[607]? = some (.code (am_y 96) (am_by 96) (am_ml 96) (am_rt 96)) := by decide +kernel
theorem am_cw_97 : lw_tbl[431]? = some (.code (am_y 97) (am_by 97) (am_ml 97) (am_rt 97)) := by decide +kernel
theorem am_cw_98 : lw_tbl[937]? = some (.code (am_y 98) (am_by 98) (am_ml 98) (am_rt 98)) := by decide +kernel
theorem am_cw_99 : lw_tbl[455]? = some (.code (am_y 99) (am_by 99) (am_ml 99) (am_rt 99)) := by decide +kernel
theorem am_cw_100 : lw_tbl[464]? = some (.code (am_y 100) (am_by 100) (am_ml 100) (am_rt 100)) := by decide +kernel
theorem am_cw_101 : lw_tbl[1006]? = some (.code (am_y 101) (am_by 101) (am_ml 101) (am_rt 101)) := by decide +kernel
theorem am_cw_102 : lw_tbl[714]? = some (.code (am_y 102) (am_by 102) (am_ml 102) (am_rt 102)) := by decide +kernel
theorem am_cw_103 : lw_tbl[724]? = some (.code (am_y 103) (am_by 103) (am_ml 103) (am_rt 103)) := by decide +kernel
theorem am_cw_104 : lw_tbl[746]? = some (.code (am_y 104) (am_by 104) (am_ml 104) (am_rt 104)) := by decide +kernel
theorem am_cw_105 : lw_tbl[968]? = some (.code (am_y 105) (am_by 105) (am_ml 105) (am_rt 105)) := by decide +kernel
theorem am_cw_106 : lw_tbl[524]? = some (.code (am_y 106) (am_by 106) (am_ml 106) (am_rt 106)) := by decide +kernel
theorem am_cw_107 : lw_tbl[582]? = some (.code (am_y 107) (am_by 107) (am_ml 107) (am_rt 107)) := by decide +kernel
theorem am_cw_108 : lw_tbl[646]? = some (.code (am_y 108) (am_by 108) (am_ml 108) (am_rt 108)) := by decide +kernel
theorem am_cw_109 : lw_tbl[687]? = some (.code (am_y 109) (am_by 109) (am_ml 109) (am_rt 109)) := by decide +kernel
theorem am_cw_110 : lw_tbl[728]? = some (.code (am_y 110) (am_by 110) (am_ml 110) (am_rt 110)) := by decide +kernel
theorem am_cw_111 : lw_tbl[1034]? = some (.code (am_y 111) (am_by 111) (am_ml 111) (am_rt 111)) := by decide +kernel
theorem am_cw_112 : lw_tbl[1043]? = some (.code (am_y 112) (am_by 112) (am_ml 112) (am_rt 112)) := by decide +kernel
theorem am_cw_113 : lw_tbl[915]? = some (.code (am_y 113) (am_by 113) (am_ml 113) (am_rt 113)) := by decide +kernel
theorem am_cw_114 : lw_tbl[1257]? = some (.code (am_y 114) (am_by 114) (am_ml 114) (am_rt 114)) := by decide +kernel
theorem am_cw_115 : lw_tbl[1310]? = some (.code (am_y 115) (am_by 115) (am_ml 115) (am_rt 115)) := by decide +kernel
theorem am_cw_116 : lw_tbl[1325]? = some (.code (am_y 116) (am_by 116) (am_ml 116) (am_rt 116)) := by decide +kernel
theorem am_cw_117 : lw_tbl[1341]? = some (.code (am_y 117) (am_by 117) (am_ml 117) (am_rt 117)) := by decide +kernel
theorem am_cw_118 : lw_tbl[1231]? = some (.code (am_y 118) (am_by 118) (am_ml 118) (am_rt 118)) := by decide +kernel
theorem am_cw_119 : lw_tbl[1240]? = some (.code (am_y 119) (am_by 119) (am_ml 119) (am_rt 119)) := by decide +kernel
theorem am_cwC_90 : ∀ i, i < 30 → Cond.code (am_y (90 + i)) (am_by (90 + i)) (am_ml (90 + i)) (am_rt (90 + i)) ∈ lw_tbl := by
  intro i hi
  match i, hi with
  | 0, _ => exact List.mem_of_getElem? am_cw_90
  | 1, _ => exact List.mem_of_getElem? am_cw_91
  | 2, _ => exact List.mem_of_getElem? am_cw_92
  | 3, _ => exact List.mem_of_getElem? am_cw_93
  | 4, _ => exact List.mem_of_getElem? am_cw_94
  | 5, _ => exact List.mem_of_getElem? am_cw_95
  | 6, _ => exact List.mem_of_getElem? am_cw_96
  | 7, _ => exact List.mem_of_getElem? am_cw_97
  | 8, _ => exact List.mem_of_getElem? am_cw_98
  | 9, _ => exact List.mem_of_getElem? am_cw_99
  | 10, _ => exact List.mem_of_getElem? am_cw_100
  | 11, _ => exact List.mem_of_getElem? am_cw_101
  | 12, _ => exact List.mem_of_getElem? am_cw_102
  | 13, _ => exact List.mem_of_getElem? am_cw_103
  | 14, _ => exact List.mem_of_getElem? am_cw_104
  | 15, _ => exact List.mem_of_getElem? am_cw_105
  | 16, _ => exact List.mem_of_getElem? am_cw_106
  | 17, _ => exact List.mem_of_getElem? am_cw_107
  | 18, _ => exact List.mem_of_getElem? am_cw_108
  | 19, _ => exact List.mem_of_getElem? am_cw_109
  | 20, _ => exact List.mem_of_getElem? am_cw_110
  | 21, _ => exact List.mem_of_getElem? am_cw_111
  | 22, _ => exact List.mem_of_getElem? am_cw_112
  | 23, _ => exact List.mem_of_getElem? am_cw_113
  | 24, _ => exact List.mem_of_getElem? am_cw_114
  | 25, _ => exact List.mem_of_getElem? am_cw_115
  | 26, _ => exact List.mem_of_getElem? am_cw_116
  | 27, _ => exact List.mem_of_getElem? am_cw_117
  | 28, _ => exact List.mem_of_getElem? am_cw_118
  | 29, _ => exact List.mem_of_getElem? am_cw_119
  | i + 30, hi => omega
