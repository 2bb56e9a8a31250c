theorem am_mok_150 : (List.range 30).all (fun i => am_mok (150 + i)) = true := by decide +kernel
theorem am_mok_180 : (List.range 30).all (fun i => am_mok (180 + i)) = true := by decide +kernel
theorem am_mok_210 : (List.range 21).all (fun i => am_mok (210 + i)) = true := by decide +kernel
theorem am_mok_all {k : Nat} (hk : k < 231) : am_mok k = true := by
  by_cases h0 : k < 30
  · have := List.all_eq_true.mp am_mok_0 (k - 0) (List.mem_range.mpr (by omega))
    rwa [show 0 + (k - 0) = k by omega] at this
  by_cases h30 : k < 60
  · have := List.all_eq_true.mp am_mok_30 (k - 30) (List.mem_range.mpr (by omega))
    rwa [show 30 + (k - 30) = k by omega] at this
  by_cases h60 : k < 90
  · have := List.all_eq_true.mp am_mok_60 (k - 60) (List.mem_range.mpr (by omega))
    rwa [show 60 + (k - 60) = k by omega] at this
  by_cases h90 : k < 120
  · have := List.all_eq_true.mp am_mok_90 (k - 90) (List.mem_range.mpr (by omega))
    rwa [show 90 + (k - 90) = k by omega] at this
  by_cases h120 : k < 150
  · have := List.all_eq_true.mp am_mok_120 (k - 120) (List.mem_range.mpr (by omega))
    rwa [show 120 + (k - 120) = k by omega] at this
  by_cases h150 : k < 180
  · have := List.all_eq_true.mp am_mok_150 (k - 150) (List.mem_range.mpr (by omega))
    rwa [show 150 + (k - 150) = k by omega] at this
  by_cases h180 : k < 210
  · have := List.all_eq_true.mp am_mok_180 (k - 180) (List.mem_range.mpr (by omega))
    rwa [show 180 + (k - 180) = k by omega] at this
  by_cases h210 : k < 231
  · have := List.all_eq_true.mp am_mok_210 (k - 210) (List.mem_range.mpr (by omega))
    rwa [show 210 + (k - 210) = k by omega] at this
  omega
def am_okb (x : Int) : Bool := decide (-2147483648 ≤ x) && decide (x ≤ 2147483647)
/-- what an instruction's row says is what the class file says -/
def am_sk (k pc nx t u : Nat) (x : Int) : Instr → Bool
  | .iconst n => nx == pc + 1 && x == n && am_okb x
  | .bipush n => nx == pc + 2 && decide ((Int8.ofInt n).toInt32 = Int32.ofInt x) && am_okb x
  | .sipush n => nx == pc + 3 && decide ((Int16.ofInt n).toInt32 = Int32.ofInt x) && am_okb x
  | .ldc i => nx == pc + 2 && am_kz am_kcl (am_ow k) i x && am_okb x
  | .ldc_w i => nx == pc + 3 && am_kz am_kcl (am_ow k) i x && am_okb x
  | .ldc2_w i => nx == pc + 3 && am_kz am_kll (am_ow k) i x
  | .iload_n n => nx == pc + 1 && t == n.val
  | .iload n => nx == pc + 2 && t == n
  | .aload_n n => nx == pc + 1 && t == n.val
  | .aload n => nx == pc + 2 && t == n
  | .lload_n n => nx == pc + 1 && t == n.val
  | .istore_n n => nx == pc + 1 && t == n.val
  | .istore n => nx == pc + 2 && t == n
  | .astore_n n => nx == pc + 1 && t == n.val
  | .astore n => nx == pc + 2 && t == n
  | .iinc n c => nx == pc + 3 && t == n && x == c
  | .ifCond _ o => nx == pc + 3 && ((pc : Int) + o == (t : Int))
  | .if_icmp _ o => nx == pc + 3 && ((pc : Int) + o == (t : Int))
  | .goto o => nx == pc + 3 && ((pc : Int) + o == (t : Int))
  | .tableswitch d lo hi os => decide (0 ≤ (pc : Int) + d) && os.toList.all (fun o => decide (0 ≤ (pc : Int) + o)) && decide (hi = lo + (os.size : Int) - 1)
  | .lookupswitch d ps => decide (0 ≤ (pc : Int) + d) && ps.toList.all (fun o => decide (0 ≤ (pc : Int) + o.2)) && (ps.toList.zip (ps.toList.drop 1)).all (fun (a, next) => a.1 < next.1)
  | .getfield i => nx == pc + 3 && am_kf am_fl (am_ow k) i t && u == t % 64 && x == ((t % 64 : Nat) : Int)
  | .putfield i => nx == pc + 3 && am_kf am_fl (am_ow k) i t && u == t % 64 && x == ((t % 64 : Nat) : Int)
  | .getstatic i => nx == pc + 3 && am_kf am_gl (am_ow k) i t
  | .newarray a => nx == pc + 2 && decide (a = .int)
  | .invokevirtual i => nx == pc + 3 && am_kf am_mll (am_ow k) i t && u == am_np t + 1 && x == (am_ow t : Int) && !am_sc t && decide (t < 231)
  | .invokestatic i => nx == pc + 3 && (if t == 9999 then am_kf am_cll (am_ow k) i t else (am_kf am_mll (am_ow k) i t && u == am_np t && am_sc t && decide (t < 231)))
  | .return_ => nx == pc + 1 && decide (am_rt k = none)
  | .ireturn => nx == pc + 1 && decide (am_rt k = some .int ∨ am_rt k = some .boolean)
  | _ => nx == pc + 1
def am_sb (k : Nat) (e : Nat × am_E) : Bool := (match decode (am_by k) e.1 with | .ok (j, l) => decide (j = e.2.1) && decide (e.1 + l = e.2.2.1) | _ => false) && am_sk k e.1 e.2.2.1 e.2.2.2.1 e.2.2.2.2.1 e.2.2.2.2.2 e.2.1
def am_chk (k : Nat) : Bool := (am_tab.getD k []).all (am_sb k)
theorem am_chk_0 : (List.range 6).all (fun i => am_chk (0 + i)) = true := by decide +kernel
theorem am_chk_6 : (List.range 6).all (fun i => am_chk (6 + i)) = true := by decide +kernel
