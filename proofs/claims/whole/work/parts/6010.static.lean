theorem am_cw_120 : lw_tbl[1270]? = some (.code (am_y 120) (am_by 120) (am_ml 120) (am_rt 120)) := by decide +kernel
theorem am_cw_121 : lw_tbl[1275]? = some (.code (am_y 121) (am_by 121) (am_ml 121) (am_rt 121)) := by decide +kernel
theorem am_cw_122 : lw_tbl[1283]? = some (.code (am_y 122) (am_by 122) (am_ml 122) (am_rt 122)) := by decide +kernel
theorem am_cw_123 : lw_tbl[1292]? = some (.code (am_y 123) (am_by 123) (am_ml 123) (am_rt 123)) := by decide +kernel
theorem am_cw_124 : lw_tbl[1318]? = some (.code (am_y 124) (am_by 124) (am_ml 124) (am_rt 124)) := by decide +kernel
theorem am_cw_125 : lw_tbl[1329]? = some (.code (am_y 125) (am_by 125) (am_ml 125) (am_rt 125)) := by decide +kernel
theorem am_cw_126 : lw_tbl[1334]? = some (.code (am_y 126) (am_by 126) (am_ml 126) (am_rt 126)) := by decide +kernel
theorem am_cw_127 : lw_tbl[1349]? = some (.code (am_y 127) (am_by 127) (am_ml 127) (am_rt 127)) := by decide +kernel
theorem am_cw_128 : lw_tbl[1357]? = some (.code (am_y 128) (am_by 128) (am_ml 128) (am_rt 128)) := by decide +kernel
theorem am_cw_129 : lw_tbl[1373]? = some (.code (am_y 129) (am_by 129) (am_ml 129) (am_rt 129)) := by decide +kernel
theorem am_cw_130 : lw_tbl[1377]? = some (.code (am_y 130) (am_by 130) (am_ml 130) (am_rt 130)) := by decide +kernel
theorem am_cw_131 : lw_tbl[1389]? = some (.code (am_y 131) (am_by 131) (am_ml 131) (am_rt 131)) := by decide +kernel
theorem am_cw_132 : lw_tbl[1398]? = some (.code (am_y 132) (am_by 132) (am_ml 132) (am_rt 132)) := by decide +kernel
theorem am_cw_133 : lw_tbl[1410]? = some (.code (am_y 133) (am_by 133) (am_ml 133) (am_rt 133)) := by decide +kernel
theorem am_cw_134 : lw_tbl[1472]? = some (.code (am_y 134) (am_by 134) (am_ml 134) (am_rt 134)) := by decide +kernel
theorem am_cw_135 : lw_tbl[1440]? = some (.code (am_y 135) (am_by 135) (am_ml 135) (am_rt 135)) := by decide +kernel
theorem am_cw_136 : lw_tbl[1492]? = some (.code (am_y 136) (am_by 136) (am_ml 136) (am_rt 136)) := by decide +kernel
theorem am_cw_137 : lw_tbl[575]? = some (.code (am_y 137) (am_by 137) (am_ml 137) (am_rt 137)) := by decide +kernel
theorem am_cw_138 : lw_tbl[683]? = some (.code (am_y 138) (am_by 138) (am_ml 138) (am_rt 138)) := by decide +kernel
theorem am_cw_139 : lw_tbl[658]? = some (.code (am_y 139) (am_by 139) (am_ml 139) (am_rt 139)) := by decide +kernel
theorem am_cw_140 : lw_tbl[789]? = some (.code (am_y 140) (am_by 140) (am_ml 140) (am_rt 140)) := by decide +kernel
theorem am_cw_141 : lw_tbl[853]? = some (.code (am_y 141) (am_by 141) (am_ml 141) (am_rt 141)) := by decide +kernel
theorem am_cw_142 : lw_tbl[572]? = some (.code (am_y 142) (am_by 142) (am_ml 142) (am_rt 142)) := by decide +kernel
theorem am_cw_143 : lw_tbl[556]? = some (.code (am_y 143) (am_by 143) (am_ml 143) (am_rt 143)) := by decide +kernel
theorem am_cw_144 : lw_tbl[599]? = some (.code (am_y 144) (am_by 144) (am_ml 144) (am_rt 144)) := by decide +kernel
theorem am_cw_145 : lw_tbl[997]? = some (.code (am_y 145) (am_by 145) (am_ml 145) (am_rt 145)) := by decide +kernel
theorem am_cw_146 : lw_tbl[485]? = some (.code (am_y 146) (am_by 146) (am_ml 146) (am_rt 146)) := by decide +kernel
theorem am_cw_147 : lw_tbl[1029]? = some (.code (am_y 147) (am_by 147) (am_ml 147) (am_rt 147)) := by decide +kernel
theorem am_cw_148 : lw_tbl[1002]? = some (.code (am_y 148) (am_by 148) (am_ml 148) (am_rt 148)) := by decide +kernel
theorem am_cw_149 : lw_tbl[711]? = some (.code (am_y 149) (am_by 149) (am_ml 149) (am_rt 149)) := by decide +kernel
theorem am_cwC_120 : ∀ i, i < 30 → Cond.code (am_y (120 + i)) (am_by (120 + i)) (am_ml (120 + i)) (am_rt (120 + i)) ∈ lw_tbl := by
  intro i hi
  match i, hi with
  | 0, _ => exact List.mem_of_getElem? am_cw_120
  | 1, _ => exact List.mem_of_getElem? am_cw_121
  | 2, _ => exact List.mem_of_getElem? am_cw_122
  | 3, _ => exact List.mem_of_getElem? am_cw_123
  | 4, _ => exact List.mem_of_getElem? am_cw_124
  | 5, _ => exact List.mem_of_getElem? am_cw_125
  | 6, _ => exact List.mem_of_getElem? am_cw_126
  | 7, _ => exact List.mem_of_getElem? am_cw_127
  | 8, _ => exact List.mem_of_getElem? am_cw_128
  | 9, _ => exact List.mem_of_getElem? am_cw_129
  | 10, _ => exact List.mem_of_getElem? am_cw_130
  | 11, _ => exact List.mem_of_getElem? am_cw_131
  | 12, _ => exact List.mem_of_getElem? am_cw_132
  | 13, _ => exact List.mem_of_getElem? am_cw_133
  | 14, _ => exact List.mem_of_getElem? am_cw_134
  | 15, _ => exact List.mem_of_getElem? am_cw_135
  | 16, _ => exact List.mem_of_getElem? am_cw_136
  | 17, _ => exact List.mem_of_getElem? am_cw_137
  | 18, _ => exact List.mem_of_getElem? am_cw_138
  | 19, _ => exact List.mem_of_getElem? am_cw_139
  | 20, _ => exact List.mem_of_getElem? am_cw_140
  | 21, _ => exact List.mem_of_getElem? am_cw_141
  | 22, _ => exact List.mem_of_getElem? am_cw_142
  | 23, _ => exact List.mem_of_getElem? am_cw_143
  | 24, _ => exact List.mem_of_getElem? am_cw_144
  | 25, _ => exact List.mem_of_getElem? am_cw_145
  | 26, _ => exact List.mem_of_getElem? am_cw_146
  | 27, _ => exact List.mem_of_getElem? am_cw_147
  | 28, _ => exact List.mem_of_getElem? am_cw_148
  | 29, _ => exact List.mem_of_getElem? am_cw_149
  | i + 30, hi => omega
