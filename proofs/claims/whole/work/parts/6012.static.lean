theorem am_cw_150 : lw_tbl[721]? = some (.code (am_y 150) (am_by 150) (am_ml 150) (am_rt 150)) := by decide +kernel
theorem am_cw_151 : lw_tbl[740]? = some (.code (am_y 151) (am_by 151) (am_ml 151) (am_rt 151)) := by decide +kernel
theorem am_cw_152 : lw_tbl[964]? = some (.code (am_y 152) (am_by 152) (am_ml 152) (am_rt 152)) := by decide +kernel
theorem am_cw_153 : lw_tbl[976]? = some (.code (am_y 153) (am_by 153) (am_ml 153) (am_rt 153)) := by decide +kernel
theorem am_cw_154 : lw_tbl[417]? = some (.code (am_y 154) (am_by 154) (am_ml 154) (am_rt 154)) := by decide +kernel
theorem am_cw_155 : lw_tbl[446]? = some (.code (am_y 155) (am_by 155) (am_ml 155) (am_rt 155)) := by decide +kernel
theorem am_cw_156 : lw_tbl[502]? = some (.code (am_y 156) (am_by 156) (am_ml 156) (am_rt 156)) := by decide +kernel
theorem am_cw_157 : lw_tbl[509]? = some (.code (am_y 157) (am_by 157) (am_ml 157) (am_rt 157)) := by decide +kernel
theorem am_cw_158 : lw_tbl[614]? = some (.code (am_y 158) (am_by 158) (am_ml 158) (am_rt 158)) := by decide +kernel
theorem am_cw_159 : lw_tbl[629]? = some (.code (am_y 159) (am_by 159) (am_ml 159) (am_rt 159)) := by decide +kernel
theorem am_cw_160 : lw_tbl[1060]? = some (.code (am_y 160) (am_by 160) (am_ml 160) (am_rt 160)) := by decide +kernel
theorem am_cw_161 : lw_tbl[1253]? = some (.code (am_y 161) (am_by 161) (am_ml 161) (am_rt 161)) := by decide +kernel
theorem am_cw_162 : lw_tbl[1266]? = some (.code (am_y 162) (am_by 162) (am_ml 162) (am_rt 162)) := by decide +kernel
theorem am_cw_163 : lw_tbl[1279]? = some (.code (am_y 163) (am_by 163) (am_ml 163) (am_rt 163)) := by decide +kernel
theorem am_cw_164 : lw_tbl[1306]? = some (.code (am_y 164) (am_by 164) (am_ml 164) (am_rt 164)) := by decide +kernel
theorem am_cw_165 : lw_tbl[1314]? = some (.code (am_y 165) (am_by 165) (am_ml 165) (am_rt 165)) := by decide +kernel
theorem am_cw_166 : lw_tbl[1322]? = some (.code (am_y 166) (am_by 166) (am_ml 166) (am_rt 166)) := by decide +kernel
theorem am_cw_167 : lw_tbl[1345]? = some (.code (am_y 167) (am_by 167) (am_ml 167) (am_rt 167)) := by decide +kernel
theorem am_cw_168 : lw_tbl[1365]? = some (.code (am_y 168) (am_by 168) (am_ml 168) (am_rt 168)) := by decide +kernel
theorem am_cw_169 : lw_tbl[1385]? = some (.code (am_y 169) (am_by 169) (am_ml 169) (am_rt 169)) := by decide +kernel
theorem am_cw_170 : lw_tbl[1453]? = some (.code (am_y 170) (am_by 170) (am_ml 170) (am_rt 170)) := by decide +kernel
theorem am_cw_171 : lw_tbl[1468]? = some (.code (am_y 171) (am_by 171) (am_ml 171) (am_rt 171)) := by decide +kernel
theorem am_cw_172 : lw_tbl[1480]? = some (.code (am_y 172) (am_by 172) (am_ml 172) (am_rt 172)) := by decide +kernel
theorem am_cw_173 : lw_tbl[1484]? = some (.code (am_y 173) (am_by 173) (am_ml 173) (am_rt 173)) := by decide +kernel
theorem am_cw_174 : lw_tbl[1488]? = some (.code (am_y 174) (am_by 174) (am_ml 174) (am_rt 174)) := by decide +kernel
theorem am_cw_175 : lw_tbl[780]? = some (.code (am_y 175) (am_by 175) (am_ml 175) (am_rt 175)) := by decide +kernel
theorem am_cw_176 : lw_tbl[827]? = some (.code (am_y 176) (am_by 176) (am_ml 176) (am_rt 176)) := by decide +kernel
theorem am_cw_177 : lw_tbl[832]? = some (.code (am_y 177) (am_by 177) (am_ml 177) (am_rt 177)) := by decide +kernel
theorem am_cw_178 : lw_tbl[552]? = some (.code (am_y 178) (am_by 178) (am_ml 178) (am_rt 178)) := by decide +kernel
theorem am_cw_179 : lw_tbl[1116]? = some (.code (am_y 179) (am_by 179) (am_ml 179) (am_rt 179)) := by decide +kernel
theorem am_cwC_150 : ∀ i, i < 30 → Cond.code (am_y (150 + i)) (am_by (150 + i)) (am_ml (150 + i)) (am_rt (150 + i)) ∈ lw_tbl := by
  intro i hi
  match i, hi with
  | 0, _ => exact List.mem_of_getElem? am_cw_150
  | 1, _ => exact List.mem_of_getElem? am_cw_151
  | 2, _ => exact List.mem_of_getElem? am_cw_152
  | 3, _ => exact List.mem_of_getElem? am_cw_153
  | 4, _ => exact List.mem_of_getElem? am_cw_154
  | 5, _ => exact List.mem_of_getElem? am_cw_155
  | 6, _ => exact List.mem_of_getElem? am_cw_156
  | 7, _ => exact List.mem_of_getElem? am_cw_157
  | 8, _ => exact List.mem_of_getElem? am_cw_158
  | 9, _ => exact List.mem_of_getElem? am_cw_159
  | 10, _ => exact List.mem_of_getElem? am_cw_160
  | 11, _ => exact List.mem_of_getElem? am_cw_161
  | 12, _ => exact List.mem_of_getElem? am_cw_162
  | 13, _ => exact List.mem_of_getElem? am_cw_163
  | 14, _ => exact List.mem_of_getElem? am_cw_164
  | 15, _ => exact List.mem_of_getElem? am_cw_165
  | 16, _ => exact List.mem_of_getElem? am_cw_166
  | 17, _ => exact List.mem_of_getElem? am_cw_167
  | 18, _ => exact List.mem_of_getElem? am_cw_168
  | 19, _ => exact List.mem_of_getElem? am_cw_169
  | 20, _ => exact List.mem_of_getElem? am_cw_170
  | 21, _ => exact List.mem_of_getElem? am_cw_171
  | 22, _ => exact List.mem_of_getElem? am_cw_172
  | 23, _ => exact List.mem_of_getElem? am_cw_173
  | 24, _ => exact List.mem_of_getElem? am_cw_174
  | 25, _ => exact List.mem_of_getElem? am_cw_175
  | 26, _ => exact List.mem_of_getElem? am_cw_176
  | 27, _ => exact List.mem_of_getElem? am_cw_177
  | 28, _ => exact List.mem_of_getElem? am_cw_178
  | 29, _ => exact List.mem_of_getElem? am_cw_179
  | i + 30, hi => omega
