theorem am_chkL : am_chk 231 = true := by
  show (am_t231).all (am_sb 231) = true
  unfold am_t231
  simp only [List.all_append, am_chkL_0, am_chkL_1, am_chkL_2, am_chkL_3, am_chkL_4, am_chkL_5, am_chkL_6, am_chkL_7, am_chkL_8, am_chkL_9, am_chkL_10, am_chkL_11, am_chkL_12, am_chkL_13, am_chkL_14, am_chkL_15, am_chkL_16, am_chkL_17, Bool.and_self]
theorem am_chk_all {k : Nat} (hk : k < 232) : am_chk k = true := by
  by_cases h0 : k < 6
  · have := List.all_eq_true.mp am_chk_0 (k - 0) (List.mem_range.mpr (by omega))
    rwa [show 0 + (k - 0) = k by omega] at this
  by_cases h6 : k < 12
  · have := List.all_eq_true.mp am_chk_6 (k - 6) (List.mem_range.mpr (by omega))
    rwa [show 6 + (k - 6) = k by omega] at this
  by_cases h12 : k < 18
  · have := List.all_eq_true.mp am_chk_12 (k - 12) (List.mem_range.mpr (by omega))
    rwa [show 12 + (k - 12) = k by omega] at this
  by_cases h18 : k < 24
  · have := List.all_eq_true.mp am_chk_18 (k - 18) (List.mem_range.mpr (by omega))
    rwa [show 18 + (k - 18) = k by omega] at this
  by_cases h24 : k < 30
  · have := List.all_eq_true.mp am_chk_24 (k - 24) (List.mem_range.mpr (by omega))
    rwa [show 24 + (k - 24) = k by omega] at this
  by_cases h30 : k < 36
  · have := List.all_eq_true.mp am_chk_30 (k - 30) (List.mem_range.mpr (by omega))
    rwa [show 30 + (k - 30) = k by omega] at this
  by_cases h36 : k < 42
  · have := List.all_eq_true.mp am_chk_36 (k - 36) (List.mem_range.mpr (by omega))
    rwa [show 36 + (k - 36) = k by omega] at this
  by_cases h42 : k < 48
  · have := List.all_eq_true.mp am_chk_42 (k - 42) (List.mem_range.mpr (by omega))
    rwa [show 42 + (k - 42) = k by omega] at this
  by_cases h48 : k < 54
  · have := List.all_eq_true.mp am_chk_48 (k - 48) (List.mem_range.mpr (by omega))
    rwa [show 48 + (k - 48) = k by omega] at this
  by_cases h54 : k < 60
  · have := List.all_eq_true.mp am_chk_54 (k - 54) (List.mem_range.mpr (by omega))
    rwa [show 54 + (k - 54) = k by omega] at this
  by_cases h60 : k < 66
  · have := List.all_eq_true.mp am_chk_60 (k - 60) (List.mem_range.mpr (by omega))
    rwa [show 60 + (k - 60) = k by omega] at this
  by_cases h66 : k < 72
  · have := List.all_eq_true.mp am_chk_66 (k - 66) (List.mem_range.mpr (by omega))
    rwa [show 66 + (k - 66) = k by omega] at this
  by_cases h72 : k < 78
  · have := List.all_eq_true.mp am_chk_72 (k - 72) (List.mem_range.mpr (by omega))
    rwa [show 72 + (k - 72) = k by omega] at this
  by_cases h78 : k < 84
  · have := List.all_eq_true.mp am_chk_78 (k - 78) (List.mem_range.mpr (by omega))
    rwa [show 78 + (k - 78) = k by omega] at this
  by_cases h84 : k < 90
  · have := List.all_eq_true.mp am_chk_84 (k - 84) (List.mem_range.mpr (by omega))
    rwa [show 84 + (k - 84) = k by omega] at this
  by_cases h90 : k < 96
  · have := List.all_eq_true.mp am_chk_90 (k - 90) (List.mem_range.mpr (by omega))
    rwa [show 90 + (k - 90) = k by omega] at this
  by_cases h96 : k < 102
  · have := List.all_eq_true.mp am_chk_96 (k - 96) (List.mem_range.mpr (by omega))
    rwa [show 96 + (k - 96) = k by omega] at this
  by_cases h102 : k < 108
  · have := List.all_eq_true.mp am_chk_102 (k - 102) (List.mem_range.mpr (by omega))
    rwa [show 102 + (k - 102) = k by omega] at this
  by_cases h108 : k < 114
  · have := List.all_eq_true.mp am_chk_108 (k - 108) (List.mem_range.mpr (by omega))
    rwa [show 108 + (k - 108) = k by omega] at this
  by_cases h114 : k < 120
  · have := List.all_eq_true.mp am_chk_114 (k - 114) (List.mem_range.mpr (by omega))
    rwa [show 114 + (k - 114) = k by omega] at this
  by_cases h120 : k < 126
  · have := List.all_eq_true.mp am_chk_120 (k - 120) (List.mem_range.mpr (by omega))
    rwa [show 120 + (k - 120) = k by omega] at this
  by_cases h126 : k < 132
  · have := List.all_eq_true.mp am_chk_126 (k - 126) (List.mem_range.mpr (by omega))
    rwa [show 126 + (k - 126) = k by omega] at this
  by_cases h132 : k < 138
  · have := List.all_eq_true.mp am_chk_132 (k - 132) (List.mem_range.mpr (by omega))
    rwa [show 132 + (k - 132) = k by omega] at this
  by_cases h138 : k < 144
  · have := List.all_eq_true.mp am_chk_138 (k - 138) (List.mem_range.mpr (by omega))
    rwa [show 138 + (k - 138) = k by omega] at this
  by_cases h144 : k < 150
  · have := List.all_eq_true.mp am_chk_144 (k - 144) (List.mem_range.mpr (by omega))
    rwa [show 144 + (k - 144) = k by omega] at this
  by_cases h150 : k < 156
  · have := List.all_eq_true.mp am_chk_150 (k - 150) (List.mem_range.mpr (by omega))
    rwa [show 150 + (k - 150) = k by omega] at this
  by_cases h156 : k < 162
  · have := List.all_eq_true.mp am_chk_156 (k - 156) (List.mem_range.mpr (by omega))
    rwa [show 156 + (k - 156) = k by omega] at this
  by_cases h162 : k < 168
  · have := List.all_eq_true.mp am_chk_162 (k - 162) (List.mem_range.mpr (by omega))
    rwa [show 162 + (k - 162) = k by omega] at this
  by_cases h168 : k < 174
  · have := List.all_eq_true.mp am_chk_168 (k - 168) (List.mem_range.mpr (by omega))
    rwa [show 168 + (k - 168) = k by omega] at this
  by_cases h174 : k < 180
  · have := List.all_eq_true.mp am_chk_174 (k - 174) (List.mem_range.mpr (by omega))
    rwa [show 174 + (k - 174) = k by omega] at this
  by_cases h180 : k < 186
  · have := List.all_eq_true.mp am_chk_180 (k - 180) (List.mem_range.mpr (by omega))
    rwa [show 180 + (k - 180) = k by omega] at this
  by_cases h186 : k < 192
  · have := List.all_eq_true.mp am_chk_186 (k - 186) (List.mem_range.mpr (by omega))
    rwa [show 186 + (k - 186) = k by omega] at this
  by_cases h192 : k < 198
  · have := List.all_eq_true.mp am_chk_192 (k - 192) (List.mem_range.mpr (by omega))
    rwa [show 192 + (k - 192) = k by omega] at this
  by_cases h198 : k < 204
  · have := List.all_eq_true.mp am_chk_198 (k - 198) (List.mem_range.mpr (by omega))
    rwa [show 198 + (k - 198) = k by omega] at this
  by_cases h204 : k < 210
  · have := List.all_eq_true.mp am_chk_204 (k - 204) (List.mem_range.mpr (by omega))
    rwa [show 204 + (k - 204) = k by omega] at this
  by_cases h210 : k < 216
  · have := List.all_eq_true.mp am_chk_210 (k - 210) (List.mem_range.mpr (by omega))
    rwa [show 210 + (k - 210) = k by omega] at this
  by_cases h216 : k < 222
  · have := List.all_eq_true.mp am_chk_216 (k - 216) (List.mem_range.mpr (by omega))
    rwa [show 216 + (k - 216) = k by omega] at this
  by_cases h222 : k < 228
  · have := List.all_eq_true.mp am_chk_222 (k - 222) (List.mem_range.mpr (by omega))
    rwa [show 222 + (k - 222) = k by omega] at this
  by_cases h228 : k < 231
  · have := List.all_eq_true.mp am_chk_228 (k - 228) (List.mem_range.mpr (by omega))
    rwa [show 228 + (k - 228) = k by omega] at this
  have h : k = 231 := by omega
  rw [h]; exact am_chkL
theorem am_mok_all {k : Nat} (hk : k < 231) : am_mok k = true := by
  by_cases h0 : k < 30
  · have := List.all_eq_true.mp am_mok_0 (k - 0) (List.mem_range.mpr (by omega))
    rwa [show 0 + (k - 0) = k by omega] at this
  by_cases h30 : k < 60
  · have := List.all_eq_true.mp am_mok_30 (k - 30) (List.mem_range.mpr (by omega))
    rwa [show 30 + (k - 30) = k by omega] at this
  by_cases h60 : k < 90
  · have := List.all_eq_true.mp am_mok_60 (k - 60) (List.mem_range.mpr (by omega))
    rwa [show 60 + (k - 60) = k by omega] at this
  by_cases h90 : k < 120
  · have := List.all_eq_true.mp am_mok_90 (k - 90) (List.mem_range.mpr (by omega))
    rwa [show 90 + (k - 90) = k by omega] at this
  by_cases h120 : k < 150
  · have := List.all_eq_true.mp am_mok_120 (k - 120) (List.mem_range.mpr (by omega))
    rwa [show 120 + (k - 120) = k by omega] at this
  by_cases h150 : k < 180
  · have := List.all_eq_true.mp am_mok_150 (k - 150) (List.mem_range.mpr (by omega))
    rwa [show 150 + (k - 150) = k by omega] at this
  by_cases h180 : k < 210
  · have := List.all_eq_true.mp am_mok_180 (k - 180) (List.mem_range.mpr (by omega))
    rwa [show 180 + (k - 180) = k by omega] at this
  by_cases h210 : k < 231
  · have := List.all_eq_true.mp am_mok_210 (k - 210) (List.mem_range.mpr (by omega))
    rwa [show 210 + (k - 210) = k by omega] at this
  omega
theorem am_cw_all {k : Nat} (hk : k < 231) : Cond.code (am_y k) (am_by k) (am_ml k) (am_rt k) ∈ lw_tbl := by
  by_cases h0 : k < 30
  · have := am_cwC_0 (k - 0) (by omega)
    rwa [show 0 + (k - 0) = k by omega] at this
  by_cases h30 : k < 60
  · have := am_cwC_30 (k - 30) (by omega)
    rwa [show 30 + (k - 30) = k by omega] at this
  by_cases h60 : k < 90
  · have := am_cwC_60 (k - 60) (by omega)
    rwa [show 60 + (k - 60) = k by omega] at this
  by_cases h90 : k < 120
  · have := am_cwC_90 (k - 90) (by omega)
    rwa [show 90 + (k - 90) = k by omega] at this
  by_cases h120 : k < 150
  · have := am_cwC_120 (k - 120) (by omega)
    rwa [show 120 + (k - 120) = k by omega] at this
  by_cases h150 : k < 180
  · have := am_cwC_150 (k - 150) (by omega)
    rwa [show 150 + (k - 150) = k by omega] at this
  by_cases h180 : k < 210
  · have := am_cwC_180 (k - 180) (by omega)
    rwa [show 180 + (k - 180) = k by omega] at this
  by_cases h210 : k < 231
  · have := am_cwC_210 (k - 210) (by omega)
    rwa [show 210 + (k - 210) = k by omega] at this
  omega
theorem so_stat_ok : so_stat := ⟨fun _ hk => am_chk_all hk, fun _ hk => am_mok_all hk, fun _ hk => am_cw_all hk, (fun e he => List.mem_of_getElem? (of_decide_eq_true (List.all_eq_true.mp am_fl_ok e he))), (fun e he => List.mem_of_getElem? (of_decide_eq_true (List.all_eq_true.mp am_mll_ok e he))), (fun e he => List.mem_of_getElem? (of_decide_eq_true (List.all_eq_true.mp am_cll_ok e he))), (fun e he => List.mem_of_getElem? (of_decide_eq_true (List.all_eq_true.mp am_kcl_ok e he))), (fun e he => List.mem_of_getElem? (of_decide_eq_true (List.all_eq_true.mp am_kll_ok e he))), (fun e he => by
  have := List.all_eq_true.mp am_gl_ok e he
  simp only [Bool.and_eq_true, decide_eq_true_eq] at this
  exact ⟨this.1, List.mem_of_getElem? this.2⟩), am_copyw⟩
