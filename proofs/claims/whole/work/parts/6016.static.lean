theorem am_cw_210 : lw_tbl[700]? = some (.code (am_y 210) (am_by 210) (am_ml 210) (am_rt 210)) := by decide +kernel
theorem am_cw_211 : lw_tbl[757]? = some (.code (am_y 211) (am_by 211) (am_ml 211) (am_rt 211)) := by decide +kernel
theorem am_cw_212 : lw_tbl[768]? = some (.code (am_y 212) (am_by 212) (am_ml 212) (am_rt 212)) := by decide +kernel
theorem am_cw_213 : lw_tbl[988]? = some (.code (am_y 213) (am_by 213) (am_ml 213) (am_rt 213)) := by decide +kernel
theorem am_cw_214 : lw_tbl[1112]? = some (.code (am_y 214) (am_by 214) (am_ml 214) (am_rt 214)) := by decide +kernel
theorem am_cw_215 : lw_tbl[911]? = some (.code (am_y 215) (am_by 215) (am_ml 215) (am_rt 215)) := by decide +kernel
theorem am_cw_216 : lw_tbl[927]? = some (.code (am_y 216) (am_by 216) (am_ml 216) (am_rt 216)) := by decide +kernel
theorem am_cw_217 : lw_tbl[1421]? = some (.code (am_y 217) (am_by 217) (am_ml 217) (am_rt 217)) := by decide +kernel
theorem am_cw_218 : lw_tbl[1429]? = some (.code (am_y 218) (am_by 218) (am_ml 218) (am_rt 218)) := by decide +kernel
theorem am_cw_219 : lw_tbl[1437]? = some (.code (am_y 219) (am_by 219) (am_ml 219) (am_rt 219)) := by decide +kernel
theorem am_cw_220 : lw_tbl[841]? = some (.code (am_y 220) (am_by 220) (am_ml 220) (am_rt 220)) := by decide +kernel
theorem am_cw_221 : lw_tbl[890]? = some (.code (am_y 221) (am_by 221) (am_ml 221) (am_rt 221)) := by decide +kernel
theorem am_cw_222 : lw_tbl[953]? = some (.code (am_y 222) (am_by 222) (am_ml 222) (am_rt 222)) := by decide +kernel
theorem am_cw_223 : lw_tbl[772]? = some (.code (am_y 223) (am_by 223) (am_ml 223) (am_rt 223)) := by decide +kernel
theorem am_cw_224 : lw_tbl[819]? = some (.code (am_y 224) (am_by 224) (am_ml 224) (am_rt 224)) := by decide +kernel
theorem am_cw_225 : lw_tbl[902]? = some (.code (am_y 225) (am_by 225) (am_ml 225) (am_rt 225)) := by decide +kernel
theorem am_cw_226 : lw_tbl[923]? = some (.code (am_y 226) (am_by 226) (am_ml 226) (am_rt 226)) := by decide +kernel
theorem am_cw_227 : lw_tbl[1010]? = some (.code (am_y 227) (am_by 227) (am_ml 227) (am_rt 227)) := by decide +kernel
theorem am_cw_228 : lw_tbl[837]? = some (.code (am_y 228) (am_by 228) (am_ml 228) (am_rt 228)) := by decide +kernel
theorem am_cw_229 : lw_tbl[879]? = some (.code (am_y 229) (am_by 229) (am_ml 229) (am_rt 229)) := by decide +kernel
theorem am_cw_230 : lw_tbl[933]? = some (.code (am_y 230) (am_by 230) (am_ml 230) (am_rt 230)) := by decide +kernel
theorem am_cwC_210 : ∀ i, i < 21 → Cond.code (am_y (210 + i)) (am_by (210 + i)) (am_ml (210 + i)) (am_rt (210 + i)) ∈ lw_tbl := by
  intro i hi
  match i, hi with
  | 0, _ => exact List.mem_of_getElem? am_cw_210
  | 1, _ => exact List.mem_of_getElem? am_cw_211
  | 2, _ => exact List.mem_of_getElem? am_cw_212
  | 3, _ => exact List.mem_of_getElem? am_cw_213
  | 4, _ => exact List.mem_of_getElem? am_cw_214
  | 5, _ => exact List.mem_of_getElem? am_cw_215
  | 6, _ => exact List.mem_of_getElem? am_cw_216
  | 7, _ => exact List.mem_of_getElem? am_cw_217
  | 8, _ => exact List.mem_of_getElem? am_cw_218
  | 9, _ => exact List.mem_of_getElem? am_cw_219
  | 10, _ => exact List.mem_of_getElem? am_cw_220
  | 11, _ => exact List.mem_of_getElem? am_cw_221
  | 12, _ => exact List.mem_of_getElem? am_cw_222
  | 13, _ => exact List.mem_of_getElem? am_cw_223
  | 14, _ => exact List.mem_of_getElem? am_cw_224
  | 15, _ => exact List.mem_of_getElem? am_cw_225
  | 16, _ => exact List.mem_of_getElem? am_cw_226
  | 17, _ => exact List.mem_of_getElem? am_cw_227
  | 18, _ => exact List.mem_of_getElem? am_cw_228
  | 19, _ => exact List.mem_of_getElem? am_cw_229
  | 20, _ => exact List.mem_of_getElem? am_cw_230
  | i + 21, hi => omega
