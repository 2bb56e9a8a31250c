theorem st_el {args : Array Value} {s : State} {tm : Term} {f : Nat → Value} {j : Nat} {z : Int32} (h : (Cond.eq (.elem tm (.int (Int32.ofNat j))) (.int z)).before args s = true) (e : f j = .int z) : (Term.elem tm (.int (Int32.ofNat j))).eval args s none [] s = some (f j) := by
  rw [e]; exact va_eqt h
theorem st_2001 {args : Array Value} {s : State} {A : Nat → Prop} (hts : ∀ w ∈ lw_tbl, w.before args s = true) (hgv : (Jvm.Cond.and given_1 narrow_1).before args s = true) (hA : ∀ a : Nat, a < s.heap.size → ¬ A a) : ∃ t : Nat, va_Z "DialectAtlas$Asked" "ABOVE" "[I" (.ref t) A s s.heap ∧ va_T .int t 4 (fun j => .int (Int32.ofInt (am_ct 2001 (j : Int)))) A s s.heap := by
  have hs := flat_of_before _ hgv
  obtain ⟨t, ht, hT⟩ := va_Tof (tm := (.static "DialectAtlas$Asked" "ABOVE" "[I")) (ty := .int) (N := 4) (f := fun j => .int (Int32.ofInt (am_ct 2001 (j : Int)))) (A := A) (by decide) (hs (.arrayOf (.static "DialectAtlas$Asked" "ABOVE" "[I") .int) (by decide +kernel)) (va_eqt (z := Int32.ofNat 4) (hs (.eq (.length (.static "DialectAtlas$Asked" "ABOVE" "[I")) (.int (Int32.ofNat 4))) (by decide +kernel))) (fun j hj => by
    match j, hj with
    | 0, _ => exact st_el (f := fun j : Nat => .int (Int32.ofInt (am_ct 2001 (j : Int)))) (j := 0) (z := (-1)) (hs (.eq (.elem (.static "DialectAtlas$Asked" "ABOVE" "[I") (.int (Int32.ofNat 0))) (.int (-1))) (by decide +kernel)) (congrArg Value.int (show Int32.ofInt (am_ct 2001 0) = (-1) by decide +kernel))
    | 1, _ => exact st_el (f := fun j : Nat => .int (Int32.ofInt (am_ct 2001 (j : Int)))) (j := 1) (z := 0) (hs (.eq (.elem (.static "DialectAtlas$Asked" "ABOVE" "[I") (.int (Int32.ofNat 1))) (.int 0)) (by decide +kernel)) (congrArg Value.int (show Int32.ofInt (am_ct 2001 1) = 0 by decide +kernel))
    | 2, _ => exact st_el (f := fun j : Nat => .int (Int32.ofInt (am_ct 2001 (j : Int)))) (j := 2) (z := 0) (hs (.eq (.elem (.static "DialectAtlas$Asked" "ABOVE" "[I") (.int (Int32.ofNat 2))) (.int 0)) (by decide +kernel)) (congrArg Value.int (show Int32.ofInt (am_ct 2001 2) = 0 by decide +kernel))
    | 3, _ => exact st_el (f := fun j : Nat => .int (Int32.ofInt (am_ct 2001 (j : Int)))) (j := 3) (z := 1) (hs (.eq (.elem (.static "DialectAtlas$Asked" "ABOVE" "[I") (.int (Int32.ofNat 3))) (.int 1)) (by decide +kernel)) (congrArg Value.int (show Int32.ofInt (am_ct 2001 3) = 1 by decide +kernel))
    | j + 4, hj => omega) hA
  exact ⟨t, va_Zof (hts (.laysStatic "DialectAtlas$Asked" "ABOVE" "[I") (List.mem_of_getElem? (i := 534) (by decide +kernel))) (hts (.initialized "DialectAtlas$Asked") (List.mem_of_getElem? (i := 60) (by decide +kernel))) ht hA, hT⟩
theorem st_2002 {args : Array Value} {s : State} {A : Nat → Prop} (hts : ∀ w ∈ lw_tbl, w.before args s = true) (hgv : (Jvm.Cond.and given_1 narrow_1).before args s = true) (hA : ∀ a : Nat, a < s.heap.size → ¬ A a) : ∃ t : Nat, va_Z "DialectAtlas$Border" "ACROSS" "[I" (.ref t) A s s.heap ∧ va_T .int t 8 (fun j => .int (Int32.ofInt (am_ct 2002 (j : Int)))) A s s.heap := by
  have hs := flat_of_before _ hgv
  obtain ⟨t, ht, hT⟩ := va_Tof (tm := (.static "DialectAtlas$Border" "ACROSS" "[I")) (ty := .int) (N := 8) (f := fun j => .int (Int32.ofInt (am_ct 2002 (j : Int)))) (A := A) (by decide) (hs (.arrayOf (.static "DialectAtlas$Border" "ACROSS" "[I") .int) (by decide +kernel)) (va_eqt (z := Int32.ofNat 8) (hs (.eq (.length (.static "DialectAtlas$Border" "ACROSS" "[I")) (.int (Int32.ofNat 8))) (by decide +kernel))) (fun j hj => by
    match j, hj with
    | 0, _ => exact st_el (f := fun j : Nat => .int (Int32.ofInt (am_ct 2002 (j : Int)))) (j := 0) (z := 1) (hs (.eq (.elem (.static "DialectAtlas$Border" "ACROSS" "[I") (.int (Int32.ofNat 0))) (.int 1)) (by decide +kernel)) (congrArg Value.int (show Int32.ofInt (am_ct 2002 0) = 1 by decide +kernel))
    | 1, _ => exact st_el (f := fun j : Nat => .int (Int32.ofInt (am_ct 2002 (j : Int)))) (j := 1) (z := 0) (hs (.eq (.elem (.static "DialectAtlas$Border" "ACROSS" "[I") (.int (Int32.ofNat 1))) (.int 0)) (by decide +kernel)) (congrArg Value.int (show Int32.ofInt (am_ct 2002 1) = 0 by decide +kernel))
    | 2, _ => exact st_el (f := fun j : Nat => .int (Int32.ofInt (am_ct 2002 (j : Int)))) (j := 2) (z := 1) (hs (.eq (.elem (.static "DialectAtlas$Border" "ACROSS" "[I") (.int (Int32.ofNat 2))) (.int 1)) (by decide +kernel)) (congrArg Value.int (show Int32.ofInt (am_ct 2002 2) = 1 by decide +kernel))
    | 3, _ => exact st_el (f := fun j : Nat => .int (Int32.ofInt (am_ct 2002 (j : Int)))) (j := 3) (z := 1) (hs (.eq (.elem (.static "DialectAtlas$Border" "ACROSS" "[I") (.int (Int32.ofNat 3))) (.int 1)) (by decide +kernel)) (congrArg Value.int (show Int32.ofInt (am_ct 2002 3) = 1 by decide +kernel))
    | 4, _ => exact st_el (f := fun j : Nat => .int (Int32.ofInt (am_ct 2002 (j : Int)))) (j := 4) (z := 2) (hs (.eq (.elem (.static "DialectAtlas$Border" "ACROSS" "[I") (.int (Int32.ofNat 4))) (.int 2)) (by decide +kernel)) (congrArg Value.int (show Int32.ofInt (am_ct 2002 4) = 2 by decide +kernel))
    | 5, _ => exact st_el (f := fun j : Nat => .int (Int32.ofInt (am_ct 2002 (j : Int)))) (j := 5) (z := 1) (hs (.eq (.elem (.static "DialectAtlas$Border" "ACROSS" "[I") (.int (Int32.ofNat 5))) (.int 1)) (by decide +kernel)) (congrArg Value.int (show Int32.ofInt (am_ct 2002 5) = 1 by decide +kernel))
    | 6, _ => exact st_el (f := fun j : Nat => .int (Int32.ofInt (am_ct 2002 (j : Int)))) (j := 6) (z := 2) (hs (.eq (.elem (.static "DialectAtlas$Border" "ACROSS" "[I") (.int (Int32.ofNat 6))) (.int 2)) (by decide +kernel)) (congrArg Value.int (show Int32.ofInt (am_ct 2002 6) = 2 by decide +kernel))
    | 7, _ => exact st_el (f := fun j : Nat => .int (Int32.ofInt (am_ct 2002 (j : Int)))) (j := 7) (z := 1) (hs (.eq (.elem (.static "DialectAtlas$Border" "ACROSS" "[I") (.int (Int32.ofNat 7))) (.int 1)) (by decide +kernel)) (congrArg Value.int (show Int32.ofInt (am_ct 2002 7) = 1 by decide +kernel))
    | j + 8, hj => omega) hA
  exact ⟨t, va_Zof (hts (.laysStatic "DialectAtlas$Border" "ACROSS" "[I") (List.mem_of_getElem? (i := 785) (by decide +kernel))) (hts (.initialized "DialectAtlas$Border") (List.mem_of_getElem? (i := 64) (by decide +kernel))) ht hA, hT⟩
theorem st_2003 {args : Array Value} {s : State} {A : Nat → Prop} (hts : ∀ w ∈ lw_tbl, w.before args s = true) (hgv : (Jvm.Cond.and given_1 narrow_1).before args s = true) (hA : ∀ a : Nat, a < s.heap.size → ¬ A a) : ∃ t : Nat, va_Z "DialectAtlas$Border" "UP" "[I" (.ref t) A s s.heap ∧ va_T .int t 8 (fun j => .int (Int32.ofInt (am_ct 2003 (j : Int)))) A s s.heap := by
  have hs := flat_of_before _ hgv
  obtain ⟨t, ht, hT⟩ := va_Tof (tm := (.static "DialectAtlas$Border" "UP" "[I")) (ty := .int) (N := 8) (f := fun j => .int (Int32.ofInt (am_ct 2003 (j : Int)))) (A := A) (by decide) (hs (.arrayOf (.static "DialectAtlas$Border" "UP" "[I") .int) (by decide +kernel)) (va_eqt (z := Int32.ofNat 8) (hs (.eq (.length (.static "DialectAtlas$Border" "UP" "[I")) (.int (Int32.ofNat 8))) (by decide +kernel))) (fun j hj => by
    match j, hj with
    | 0, _ => exact st_el (f := fun j : Nat => .int (Int32.ofInt (am_ct 2003 (j : Int)))) (j := 0) (z := 0) (hs (.eq (.elem (.static "DialectAtlas$Border" "UP" "[I") (.int (Int32.ofNat 0))) (.int 0)) (by decide +kernel)) (congrArg Value.int (show Int32.ofInt (am_ct 2003 0) = 0 by decide +kernel))
    | 1, _ => exact st_el (f := fun j : Nat => .int (Int32.ofInt (am_ct 2003 (j : Int)))) (j := 1) (z := 1) (hs (.eq (.elem (.static "DialectAtlas$Border" "UP" "[I") (.int (Int32.ofNat 1))) (.int 1)) (by decide +kernel)) (congrArg Value.int (show Int32.ofInt (am_ct 2003 1) = 1 by decide +kernel))
    | 2, _ => exact st_el (f := fun j : Nat => .int (Int32.ofInt (am_ct 2003 (j : Int)))) (j := 2) (z := 1) (hs (.eq (.elem (.static "DialectAtlas$Border" "UP" "[I") (.int (Int32.ofNat 2))) (.int 1)) (by decide +kernel)) (congrArg Value.int (show Int32.ofInt (am_ct 2003 2) = 1 by decide +kernel))
    | 3, _ => exact st_el (f := fun j : Nat => .int (Int32.ofInt (am_ct 2003 (j : Int)))) (j := 3) (z := (-1)) (hs (.eq (.elem (.static "DialectAtlas$Border" "UP" "[I") (.int (Int32.ofNat 3))) (.int (-1))) (by decide +kernel)) (congrArg Value.int (show Int32.ofInt (am_ct 2003 3) = (-1) by decide +kernel))
    | 4, _ => exact st_el (f := fun j : Nat => .int (Int32.ofInt (am_ct 2003 (j : Int)))) (j := 4) (z := 1) (hs (.eq (.elem (.static "DialectAtlas$Border" "UP" "[I") (.int (Int32.ofNat 4))) (.int 1)) (by decide +kernel)) (congrArg Value.int (show Int32.ofInt (am_ct 2003 4) = 1 by decide +kernel))
    | 5, _ => exact st_el (f := fun j : Nat => .int (Int32.ofInt (am_ct 2003 (j : Int)))) (j := 5) (z := 2) (hs (.eq (.elem (.static "DialectAtlas$Border" "UP" "[I") (.int (Int32.ofNat 5))) (.int 2)) (by decide +kernel)) (congrArg Value.int (show Int32.ofInt (am_ct 2003 5) = 2 by decide +kernel))
    | 6, _ => exact st_el (f := fun j : Nat => .int (Int32.ofInt (am_ct 2003 (j : Int)))) (j := 6) (z := (-1)) (hs (.eq (.elem (.static "DialectAtlas$Border" "UP" "[I") (.int (Int32.ofNat 6))) (.int (-1))) (by decide +kernel)) (congrArg Value.int (show Int32.ofInt (am_ct 2003 6) = (-1) by decide +kernel))
    | 7, _ => exact st_el (f := fun j : Nat => .int (Int32.ofInt (am_ct 2003 (j : Int)))) (j := 7) (z := (-2)) (hs (.eq (.elem (.static "DialectAtlas$Border" "UP" "[I") (.int (Int32.ofNat 7))) (.int (-2))) (by decide +kernel)) (congrArg Value.int (show Int32.ofInt (am_ct 2003 7) = (-2) by decide +kernel))
    | j + 8, hj => omega) hA
  exact ⟨t, va_Zof (hts (.laysStatic "DialectAtlas$Border" "UP" "[I") (List.mem_of_getElem? (i := 799) (by decide +kernel))) (hts (.initialized "DialectAtlas$Border") (List.mem_of_getElem? (i := 64) (by decide +kernel))) ht hA, hT⟩
theorem st_K {args : Array Value} {s : State} (hts : ∀ w ∈ lw_tbl, w.before args s = true) : ∃ (G : va_G) (cA : ClassId), va_K G am_cls [(cA, .int)] s := by
  obtain ⟨c0, i0, k0⟩ := u_known (C := RX0) (T := TX0) (N := 8) (n := 8) hts inX0 (hts (.instantiable RX0 8) (List.mem_of_getElem? (i := 157) (by decide +kernel)))
  obtain ⟨c1, i1, k1⟩ := u_known (C := RX1) (T := TX1) (N := 4) (n := 4) hts inX1 (hts (.instantiable RX1 4) (List.mem_of_getElem? (i := 110) (by decide +kernel)))
  obtain ⟨c2, i2, k2⟩ := u_known (C := RX2) (T := TX2) (N := 8) (n := 8) hts inX2 (hts (.instantiable RX2 8) (List.mem_of_getElem? (i := 225) (by decide +kernel)))
  obtain ⟨c3, i3, k3⟩ := u_known (C := RX3) (T := TX3) (N := 10) (n := 10) hts inX3 (hts (.instantiable RX3 10) (List.mem_of_getElem? (i := 256) (by decide +kernel)))
  obtain ⟨c4, i4, k4⟩ := u_known (C := RX4) (T := TX4) (N := 7) (n := 7) hts inX4 (hts (.instantiable RX4 7) (List.mem_of_getElem? (i := 129) (by decide +kernel)))
  obtain ⟨c5, i5, k5⟩ := u_known (C := RX5) (T := TX5) (N := 4) (n := 4) hts inX5 (hts (.instantiable RX5 4) (List.mem_of_getElem? (i := 353) (by decide +kernel)))
  obtain ⟨c6, i6, k6⟩ := u_known (C := RX6) (T := TX6) (N := 6) (n := 6) hts inX6 (hts (.instantiable RX6 6) (List.mem_of_getElem? (i := 84) (by decide +kernel)))
  obtain ⟨c7, i7, k7⟩ := u_known (C := RX7) (T := TX7) (N := 3) (n := 3) hts inX7 (hts (.instantiable RX7 3) (List.mem_of_getElem? (i := 337) (by decide +kernel)))
  obtain ⟨c8, i8, k8⟩ := u_known (C := RX8) (T := TX8) (N := 3) (n := 3) hts inX8 (hts (.instantiable RX8 3) (List.mem_of_getElem? (i := 321) (by decide +kernel)))
  obtain ⟨c9, i9, k9⟩ := u_known (C := RX9) (T := TX9) (N := 10) (n := 10) hts inX9 (hts (.instantiable RX9 10) (List.mem_of_getElem? (i := 188) (by decide +kernel)))
  obtain ⟨c10, i10, k10⟩ := u_known (C := RX10) (T := TX10) (N := 7) (n := 7) hts inX10 (hts (.instantiable RX10 7) (List.mem_of_getElem? (i := 293) (by decide +kernel)))
  obtain ⟨c11, i11, k11⟩ := u_known (C := RX11) (T := TX11) (N := 14) (n := 14) hts inX11 (hts (.instantiable RX11 14) (List.mem_of_getElem? (i := 76) (by decide +kernel)))
  obtain ⟨c12, i12, k12⟩ := u_known (C := RX12) (T := TX12) (N := 32) (n := 32) hts inX12 (hts (.instantiable RX12 32) (List.mem_of_getElem? (i := 1126) (by decide +kernel)))
  obtain ⟨cA, kA, comp, h1, h2, h3⟩ := Cond.arrayClass_spec (hts (.arrayClass .int) k_ac)
  refine ⟨(fun k => [c0, c1, c2, c3, c4, c5, c6, c7, c8, c9, c10, c11, c12].getD k c0, fun k => [i0, i1, i2, i3, i4, i5, i6, i7, i8, i9, i10, i11, i12].getD k i0), cA, fun k q hq => ?_, fun k q hq => ?_⟩
  · match k, hq with
    | 0, hq => cases hq; exact k0
    | 1, hq => cases hq; exact k1
    | 2, hq => cases hq; exact k2
    | 3, hq => cases hq; exact k3
    | 4, hq => cases hq; exact k4
    | 5, hq => cases hq; exact k5
    | 6, hq => cases hq; exact k6
    | 7, hq => cases hq; exact k7
    | 8, hq => cases hq; exact k8
    | 9, hq => cases hq; exact k9
    | 10, hq => cases hq; exact k10
    | 11, hq => cases hq; exact k11
    | 12, hq => cases hq; exact k12
    | k + 13, hq => cases hq
  · match k, hq with
    | 0, hq => cases hq; exact ⟨fun n z => ⟨fun k h => (by cases h), kA, h2, comp, h3⟩, h1⟩
    | k + 1, hq => cases hq
