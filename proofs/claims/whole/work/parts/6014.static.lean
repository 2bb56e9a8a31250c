theorem am_cw_180 : lw_tbl[472]? = some (.code (am_y 180) (am_by 180) (am_ml 180) (am_rt 180)) := by decide +kernel
theorem am_cw_181 : lw_tbl[992]? = some (.code (am_y 181) (am_by 181) (am_ml 181) (am_rt 181)) := by decide +kernel
theorem am_cw_182 : lw_tbl[707]? = some (.code (am_y 182) (am_by 182) (am_ml 182) (am_rt 182)) := by decide +kernel
theorem am_cw_183 : lw_tbl[762]? = some (.code (am_y 183) (am_by 183) (am_ml 183) (am_rt 183)) := by decide +kernel
theorem am_cw_184 : lw_tbl[595]? = some (.code (am_y 184) (am_by 184) (am_ml 184) (am_rt 184)) := by decide +kernel
theorem am_cw_185 : lw_tbl[654]? = some (.code (am_y 185) (am_by 185) (am_ml 185) (am_rt 185)) := by decide +kernel
theorem am_cw_186 : lw_tbl[679]? = some (.code (am_y 186) (am_by 186) (am_ml 186) (am_rt 186)) := by decide +kernel
theorem am_cw_187 : lw_tbl[736]? = some (.code (am_y 187) (am_by 187) (am_ml 187) (am_rt 187)) := by decide +kernel
theorem am_cw_188 : lw_tbl[1022]? = some (.code (am_y 188) (am_by 188) (am_ml 188) (am_rt 188)) := by decide +kernel
theorem am_cw_189 : lw_tbl[907]? = some (.code (am_y 189) (am_by 189) (am_ml 189) (am_rt 189)) := by decide +kernel
theorem am_cw_190 : lw_tbl[1338]? = some (.code (am_y 190) (am_by 190) (am_ml 190) (am_rt 190)) := by decide +kernel
theorem am_cw_191 : lw_tbl[1353]? = some (.code (am_y 191) (am_by 191) (am_ml 191) (am_rt 191)) := by decide +kernel
theorem am_cw_192 : lw_tbl[1361]? = some (.code (am_y 192) (am_by 192) (am_ml 192) (am_rt 192)) := by decide +kernel
theorem am_cw_193 : lw_tbl[1381]? = some (.code (am_y 193) (am_by 193) (am_ml 193) (am_rt 193)) := by decide +kernel
theorem am_cw_194 : lw_tbl[1393]? = some (.code (am_y 194) (am_by 194) (am_ml 194) (am_rt 194)) := by decide +kernel
theorem am_cw_195 : lw_tbl[1402]? = some (.code (am_y 195) (am_by 195) (am_ml 195) (am_rt 195)) := by decide +kernel
theorem am_cw_196 : lw_tbl[1406]? = some (.code (am_y 196) (am_by 196) (am_ml 196) (am_rt 196)) := by decide +kernel
theorem am_cw_197 : lw_tbl[1425]? = some (.code (am_y 197) (am_by 197) (am_ml 197) (am_rt 197)) := by decide +kernel
theorem am_cw_198 : lw_tbl[1444]? = some (.code (am_y 198) (am_by 198) (am_ml 198) (am_rt 198)) := by decide +kernel
theorem am_cw_199 : lw_tbl[1449]? = some (.code (am_y 199) (am_by 199) (am_ml 199) (am_rt 199)) := by decide +kernel
theorem am_cw_200 : lw_tbl[1464]? = some (.code (am_y 200) (am_by 200) (am_ml 200) (am_rt 200)) := by decide +kernel
theorem am_cw_201 : lw_tbl[1476]? = some (.code (am_y 201) (am_by 201) (am_ml 201) (am_rt 201)) := by decide +kernel
theorem am_cw_202 : lw_tbl[776]? = some (.code (am_y 202) (am_by 202) (am_ml 202) (am_rt 202)) := by decide +kernel
theorem am_cw_203 : lw_tbl[823]? = some (.code (am_y 203) (am_by 203) (am_ml 203) (am_rt 203)) := by decide +kernel
theorem am_cw_204 : lw_tbl[845]? = some (.code (am_y 204) (am_by 204) (am_ml 204) (am_rt 204)) := by decide +kernel
theorem am_cw_205 : lw_tbl[947]? = some (.code (am_y 205) (am_by 205) (am_ml 205) (am_rt 205)) := by decide +kernel
theorem am_cw_206 : lw_tbl[1014]? = some (.code (am_y 206) (am_by 206) (am_ml 206) (am_rt 206)) := by decide +kernel
theorem am_cw_207 : lw_tbl[957]? = some (.code (am_y 207) (am_by 207) (am_ml 207) (am_rt 207)) := by decide +kernel
theorem am_cw_208 : lw_tbl[468]? = some (.code (am_y 208) (am_by 208) (am_ml 208) (am_rt 208)) := by decide +kernel
theorem am_cw_209 : lw_tbl[543]? = some (.code (am_y 209) (am_by 209) (am_ml 209) (am_rt 209)) := by decide +kernel
theorem am_cwC_180 : ∀ i, i < 30 → Cond.code (am_y (180 + i)) (am_by (180 + i)) (am_ml (180 + i)) (am_rt (180 + i)) ∈ lw_tbl := by
  intro i hi
  match i, hi with
  | 0, _ => exact List.mem_of_getElem? am_cw_180
  | 1, _ => exact List.mem_of_getElem? am_cw_181
  | 2, _ => exact List.mem_of_getElem? am_cw_182
  | 3, _ => exact List.mem_of_getElem? am_cw_183
  | 4, _ => exact List.mem_of_getElem? am_cw_184
  | 5, _ => exact List.mem_of_getElem? am_cw_185
  | 6, _ => exact List.mem_of_getElem? am_cw_186
  | 7, _ => exact List.mem_of_getElem? am_cw_187
  | 8, _ => exact List.mem_of_getElem? am_cw_188
  | 9, _ => exact List.mem_of_getElem? am_cw_189
  | 10, _ => exact List.mem_of_getElem? am_cw_190
  | 11, _ => exact List.mem_of_getElem? am_cw_191
  | 12, _ => exact List.mem_of_getElem? am_cw_192
  | 13, _ => exact List.mem_of_getElem? am_cw_193
  | 14, _ => exact List.mem_of_getElem? am_cw_194
  | 15, _ => exact List.mem_of_getElem? am_cw_195
  | 16, _ => exact List.mem_of_getElem? am_cw_196
  | 17, _ => exact List.mem_of_getElem? am_cw_197
  | 18, _ => exact List.mem_of_getElem? am_cw_198
  | 19, _ => exact List.mem_of_getElem? am_cw_199
  | 20, _ => exact List.mem_of_getElem? am_cw_200
  | 21, _ => exact List.mem_of_getElem? am_cw_201
  | 22, _ => exact List.mem_of_getElem? am_cw_202
  | 23, _ => exact List.mem_of_getElem? am_cw_203
  | 24, _ => exact List.mem_of_getElem? am_cw_204
  | 25, _ => exact List.mem_of_getElem? am_cw_205
  | 26, _ => exact List.mem_of_getElem? am_cw_206
  | 27, _ => exact List.mem_of_getElem? am_cw_207
  | 28, _ => exact List.mem_of_getElem? am_cw_208
  | 29, _ => exact List.mem_of_getElem? am_cw_209
  | i + 30, hi => omega
