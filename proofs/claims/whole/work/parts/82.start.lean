def xs_0 (L : Nat) (xs : Nat → Int32) : Int → Int := fun j => if 0 ≤ j ∧ j < (L : Int) then (xs j.toNat).toInt else 0
theorem xs_0_ok {L : Nat} {xs : Nat → Int32} (j : Int) : am_ok (xs_0 L xs j) := by
  unfold xs_0
  by_cases z : 0 ≤ j ∧ j < (L : Int)
  · rw [if_pos z]; exact sI_ok _
  · rw [if_neg z]; exact ⟨by decide, by decide⟩
theorem law_go {p : Program} {e : Env} {s : State} {m : MethodId} {below : List Frame} {meth : Method} {c : Code} (l : Launch) {b L : Nat} {xs : Nat → Int32} (hL : L ≤ 384) (C0 : lw_At p s m meth c b L xs) {G : va_G} {cA : ClassId} (hK : va_K G am_cls [(cA, .int)] s) (hgw : ∀ w ∈ am_gw, w.before #[Value.ref b] s = true) {t1 t2 t3 q0 p0 : Nat} {v u : Nat → Nat} {H : Heap} {locs : List Loc} {ls : Array Slot} (Z1 : va_Z "DialectAtlas$Asked" "ABOVE" "[I" (.ref t1) (fun q : Nat => s.heap.size ≤ q) s s.heap ∧ va_T .int t1 4 (fun j => .int (Int32.ofInt (am_ct 2001 (j : Int)))) (fun q : Nat => s.heap.size ≤ q) s s.heap) (Z2 : va_Z "DialectAtlas$Border" "ACROSS" "[I" (.ref t2) (fun q : Nat => s.heap.size ≤ q) s s.heap ∧ va_T .int t2 8 (fun j => .int (Int32.ofInt (am_ct 2002 (j : Int)))) (fun q : Nat => s.heap.size ≤ q) s s.heap) (Z3 : va_Z "DialectAtlas$Border" "UP" "[I" (.ref t3) (fun q : Nat => s.heap.size ≤ q) s s.heap ∧ va_T .int t3 8 (fun j => .int (Int32.ofInt (am_ct 2003 (j : Int)))) (fun q : Nat => s.heap.size ≤ q) s s.heap) (I : kI s (fun q : Nat => s.heap.size ≤ q) G H locs (([] ++ kw_At q0 cA v) ++ kw_Mo p0 cA u)) (hl : lv_has ls 4 [(3, .int 0), (2, .ref p0), (1, .ref q0), (0, .ref b)]) : W p l e room_1 s m #[Value.ref b] below meth c H locs 80 11237 (lw_Z below #[Value.ref b] s) (F0 m 18 ls []) := by
  obtain ⟨hx, hb, hr, hml, hown, hts, hX, hbl, hlocks, hgv⟩ := id C0
  obtain ⟨hP, hD, hS⟩ := I
  have ew := ww_0 (L := L) (xs := xs_0 L xs) (E_at (cA := cA) (q0 := q0) (p0 := p0) (b := b) (t1 := t1) (t2 := t2) (t3 := t3) (v := v) (u := u)) E_len
  rw [← ew] at hP hD
  have hfx : fx (ad_0 (al_0 q0 p0 v u) b t1 t2 t3) (fun q : Nat => s.heap.size ≤ q) L (xs_0 L xs) s s.heap := by
    refine ⟨⟨?_, hbl, Nat.not_le.mpr hbl⟩, Z1, Z2, Z3⟩
    obtain ⟨scr, h1, h2, h3, h4, h5⟩ := hX
    refine ⟨scr, h1, h2, h3, h4, fun j hj => ?_⟩
    rw [h5 j hj]
    have : xs_0 L xs (j : Int) = (xs j).toInt := by unfold xs_0; rw [if_pos ⟨by omega, by omega⟩, Int.toNat_natCast]
    show some (Value.int (xs j)) = some (Value.int (Int32.ofInt (xs_0 L xs (j : Int))))
    rw [this, sI_r]
  have F : so_F p room_1 s m #[Value.ref b] c 231 17 600000 7302250 L G cA (ad_0 (al_0 q0 p0 v u) b t1 t2 t3) (fun q : Nat => s.heap.size ≤ q) (xs_0 L xs) := ⟨⟨hx, hb, hml, hown, hgw⟩, ⟨hK, fun _ h => h, hfx⟩, Nat.le_of_ble_eq_true rfl, Nat.le_of_ble_eq_true rfl, Nat.le_of_ble_eq_true rfl, Nat.le_of_ble_eq_true rfl⟩
  have LP := law_loop (L := (L : Int)) (P := fun a _ => a = 1) (sc := xs_0 L xs) (by omega) (fun j => xs_0_ok j) (fun _ => rfl) L 0 66 0 (am_h0 L (xs_0 L xs)) (by omega) (by omega) (by omega) (by omega) (by omega) (by rw [h0_L]; omega) h0_x II_0
  obtain ⟨n, hw⟩ := LP
  have ZZ : so_Z p l e room_1 s m #[Value.ref b] below meth c 231 600000 7302250 L G cA (ad_0 (al_0 q0 p0 v u) b t1 t2 t3) (am_h0 L (xs_0 L xs)) (fun q : Nat => s.heap.size ≤ q) (xs_0 L xs) (lw_Z below #[Value.ref b] s) (am_qi (fun a _ => a = 1)) := by
    refine ⟨fun a h1 b1 pc ad1 H1 locs1 cells slots lsC hQ oa hz I1 hd hrt => ?_, fun h1 b1 pc ad1 H1 locs1 cells slots lsC hQ I1 hd hrt => ?_⟩
    · obtain ⟨a', e1, e2⟩ := hQ
      have ea : a = 1 := by cases e1; exact e2
      subst ea
      obtain ⟨i1, i2, ⟨gP, gD, gS⟩, i4, i5⟩ := I1
      refine va_forget (fun q hq => gS.2.2 q hq) (W.widen (k := 600000) (n := 7302250) (by omega) (by omega) ?_)
      exact lw_ret hx hb hr hlocks hd
    · exact absurd hrt (fun z => by cases z)
  have Lo : so_L 231 (ad_0 (al_0 q0 p0 v u) b t1 t2 t3) (am_h0 L (xs_0 L xs)) ls [some (.inr (.inr 2000)), some (.inr (.inr 0)), some (.inr (.inr 56)), some (.inl 0)] [] := by
    refine ⟨⟨lv_sub hl [3, 2, 1, 0] rfl, rfl, fun i w hi => ?_⟩, fun w hw => by cases hw⟩
    match i, hi with
    | 0, hi => cases hi; exact .inr (by decide)
    | 1, hi => cases hi; exact .inl (by rw [h0_n]; decide)
    | 2, hi => cases hi; exact .inl (by rw [h0_n]; decide)
    | 3, hi => cases hi; exact ⟨by decide, by decide⟩
    | i + 4, hi => cases hi
  exact so_walk so_stat_ok (by decide) F ZZ (so_met so_stat_ok l 17) n 66 18 _ [] _ hw _ H locs 80 11237 ls ⟨h0_wf hL (fun j => xs_0_ok j), ⟨Nat.le_refl _, fun _ _ => rfl⟩, ⟨hP, hD, hS⟩, by omega, by omega⟩ Lo
set_option maxHeartbeats 8000000 in
set_option maxRecDepth 100000 in
/-- YOUR PART: from the entry, for every script of at most 384 ints, the law comes to its end with true -/
theorem whole_start {p : Program} {e : Env} {s : State} {m : MethodId} {below : List Frame} {meth : Method} {c : Code} (l : Launch) {b L : Nat} {xs : Nat → Int32} (hL : L ≤ 384) (C0 : lw_At p s m meth c b L xs) : W p l e room_1 s m #[Value.ref b] below meth c s.heap [] 0 0 (lw_Z below #[Value.ref b] s) (entryFrame m ([Value.ref b] : List Value).toArray 4) := by
  obtain ⟨hx, hb, hr, hml, hown, hts, hX, hbl, hlocks, hgv⟩ := id C0
  obtain ⟨G, cA, hK⟩ := st_K hts
  have hgw : ∀ w ∈ am_gw, w.before #[Value.ref b] s = true := fun w hw => hts w (List.mem_filter.mp hw).1
  have hA : ∀ q : Nat, s.heap.size ≤ q → (fun q : Nat => s.heap.size ≤ q) q := fun _ h => h
  have hAn : ∀ a : Nat, a < s.heap.size → ¬ (fun q : Nat => s.heap.size ≤ q) a := fun a h => Nat.not_le.mpr h
  obtain ⟨t1, z1, T1⟩ := st_2001 hts hgv hAn
  obtain ⟨t2, z2, T2⟩ := st_2002 hts hgv hAn
  obtain ⟨t3, z3, T3⟩ := st_2003 hts hgv hAn
  have hN : k_nest s := ⟨va_Nw.of rfl (hts _ (List.mem_of_getElem? (i := 85) (by decide +kernel))), va_Nw.of rfl (hts _ (List.mem_of_getElem? (i := 111) (by decide +kernel))), va_Nw.of rfl (hts _ (List.mem_of_getElem? (i := 130) (by decide +kernel))), va_Nw.of rfl (hts _ (List.mem_of_getElem? (i := 338) (by decide +kernel))), va_Nw.of rfl (hts _ (List.mem_of_getElem? (i := 354) (by decide +kernel)))⟩
  have hS : va_S (fun q : Nat => s.heap.size ≤ q) s.heap s.heap [] := va_S.rf
  have hP : va_P G am_cls [] s.heap := fun k q h => by simp at h
  have hD : va_D (fun q : Nat => s.heap.size ≤ q) [] := ⟨fun i j p q h => by simp at h, fun k q h => by simp at h⟩
  have hl := lv_entry ([.ref b]) (n := 4) (Nat.le_of_ble_eq_true rfl)
  rw [lg_entry_eq]
  generalize (lg_sl ([.ref b]) ++ List.replicate (4 - (lg_sl ([.ref b])).length) Slot.unset).toArray = ls at hl ⊢
  have hl : lv_has ls 4 [(0, .ref b)] := hl
  refine va_new (index := 7) (ci := 11) (fs := [.null, .null, .null, .null, .null, .null, .null, .null, .null, .null, .null, .null, .int 0, .int 0]) (C := RX11) (T := TX11) (N := 14) hx hb hts inX11 tyX11 tyX11_ok hown (hts (.classLink R_law 7 RX11) (List.mem_of_getElem? (i := 75) (by decide +kernel))) (hts (.instantiable RX11 14) (List.mem_of_getElem? (i := 76) (by decide +kernel))) (hts (.initialized RX11) (List.mem_of_getElem? (i := 58) (by decide +kernel))) hK hP hD hS hA rfl (fun j hj => by
    match j, hj with
    | 0, _ => rfl
    | 1, _ => rfl
    | 2, _ => rfl
    | 3, _ => rfl
    | 4, _ => rfl
    | 5, _ => rfl
    | 6, _ => rfl
    | 7, _ => rfl
    | 8, _ => rfl
    | 9, _ => rfl
    | 10, _ => rfl
    | 11, _ => rfl
    | 12, _ => rfl
    | 13, _ => rfl
    | j + 14, hj => omega) (Nat.le_of_ble_eq_true rfl) (Nat.le_of_ble_eq_true rfl) (show decode code 0 = .ok (.new 7, 3) by decide +kernel) (fun q0 H hP hD hS => ?_)
  have I : kI s (fun q : Nat => s.heap.size ≤ q) G H [] ([] ++ [(q0, .inr (11, [.null, .null, .null, .null, .null, .null, .null, .null, .null, .null, .null, .null, .int 0, .int 0]))]) := ⟨hP, hD, hS⟩
  refine W.widen (k := 1) (n := 14) (by omega) (by omega) ?_
  refine lv_dup hx hb (show decode code 3 = .ok (.dup, 1) by decide +kernel) rfl ?_
  refine k_run (pc := 4) (ws := []) (f := kw_At q0 cA) (va_runI (index := 9) (As := []) (rest := [.ref q0]) (bytes := prog_1_method_1_code) (maxL := 1) (n := 0) ⟨hx, hb, hml, hown, hgw⟩ (ki_At l G cA q0 H.size) (cwI 0 hgw (kws_good (List.mem_of_getElem? (i := 79) (by decide +kernel))) rfl rfl rfl (hts _ (List.mem_of_getElem? (i := 58) (by decide +kernel))) (hts _ (List.mem_of_getElem? (i := 77) (by decide +kernel))) (hts _ (List.mem_of_getElem? (i := 78) (by decide +kernel))) rfl (by decide +kernel) ⟨Nat.le_of_ble_eq_true rfl, Nat.le_of_ble_eq_true rfl⟩) ⟨fun a U g mk q => by
    obtain ⟨q0, ⟨q1, qP, qK, qD⟩, qN⟩ := q
    exact ⟨q0, ⟨q1, qP, va_K.moved (u := U) (U := U.calling g mk a) (Vm.Alike.refl U.vm) qK, qD⟩, ⟨va_Nw.same rfl rfl qN.1, va_Nw.same rfl rfl qN.2.1, va_Nw.same rfl rfl qN.2.2.1, va_Nw.same rfl rfl qN.2.2.2.1, va_Nw.same rfl rfl qN.2.2.2.2⟩⟩, fun U hU hW => ⟨rfl, kB_of (ws := []) hK I hU hW, ⟨va_Nw.warmM hW hN.1, va_Nw.warmM hW hN.2.1, va_Nw.warmM hW hN.2.2.1, va_Nw.warmM hW hN.2.2.2.1, va_Nw.warmM hW hN.2.2.2.2⟩⟩⟩ rfl rfl hl.1 rfl (lv_room (Nat.le_of_ble_eq_true rfl)) (show decode code 4 = .ok (.invokespecial 9, 3) by decide +kernel) ⟨Nat.le_of_ble_eq_true rfl, Nat.le_of_ble_eq_true rfl⟩) I hA (fun v H locs I => ?_)
  refine W.widen (k := 56) (n := 3504) (by omega) (by omega) ?_
  refine lv_astore_n (lv' := [(1, .ref q0), (0, .ref b)]) hx hb (show decode code 7 = .ok (.astore_n 1, 1) by decide +kernel) rfl hl (by decide) rfl (fun ls hl => ?_)
  obtain ⟨hP, hD, hS⟩ := I
  refine va_new (index := 10) (ci := 12) (fs := [.null, .null, .int 0, .int 0, .null, .null, .null, .null, .null, .null, .null, .null, .null, .null, .int 0, .int 0, .int 0, .null, .null, .null, .null, .int 0, .null, .null, .null, .int 0, .int 0, .int 0, .null, .null, .null, .null]) (C := RX12) (T := TX12) (N := 32) hx hb hts inX12 tyX12 tyX12_ok hown (hts (.classLink R_law 10 RX12) (List.mem_of_getElem? (i := 1125) (by decide +kernel))) (hts (.instantiable RX12 32) (List.mem_of_getElem? (i := 1126) (by decide +kernel))) (hts (.initialized RX12) (List.mem_of_getElem? (i := 70) (by decide +kernel))) hK hP hD hS hA rfl (fun j hj => by
    match j, hj with
    | 0, _ => rfl
    | 1, _ => rfl
    | 2, _ => rfl
    | 3, _ => rfl
    | 4, _ => rfl
    | 5, _ => rfl
    | 6, _ => rfl
    | 7, _ => rfl
    | 8, _ => rfl
    | 9, _ => rfl
    | 10, _ => rfl
    | 11, _ => rfl
    | 12, _ => rfl
    | 13, _ => rfl
    | 14, _ => rfl
    | 15, _ => rfl
    | 16, _ => rfl
    | 17, _ => rfl
    | 18, _ => rfl
    | 19, _ => rfl
    | 20, _ => rfl
    | 21, _ => rfl
    | 22, _ => rfl
    | 23, _ => rfl
    | 24, _ => rfl
    | 25, _ => rfl
    | 26, _ => rfl
    | 27, _ => rfl
    | 28, _ => rfl
    | 29, _ => rfl
    | 30, _ => rfl
    | 31, _ => rfl
    | j + 32, hj => omega) (Nat.le_of_ble_eq_true rfl) (Nat.le_of_ble_eq_true rfl) (show decode code 8 = .ok (.new 10, 3) by decide +kernel) (fun p0 H hP hD hS => ?_)
  have I : kI s (fun q : Nat => s.heap.size ≤ q) G H locs (([] ++ kw_At q0 cA v) ++ [(p0, .inr (12, [.null, .null, .int 0, .int 0, .null, .null, .null, .null, .null, .null, .null, .null, .null, .null, .int 0, .int 0, .int 0, .null, .null, .null, .null, .int 0, .null, .null, .null, .int 0, .int 0, .int 0, .null, .null, .null, .null]))]) := ⟨hP, hD, hS⟩
  refine W.widen (k := 57) (n := 3536) (by omega) (by omega) ?_
  refine lv_dup hx hb (show decode code 11 = .ok (.dup, 1) by decide +kernel) rfl ?_
  refine k_run (pc := 12) (ws := [] ++ kw_At q0 cA v) (f := kw_Mo p0 cA) (va_runI (index := 12) (As := []) (rest := [.ref p0]) (bytes := prog_14_method_1_code) (maxL := 1) (n := 0) ⟨hx, hb, hml, hown, hgw⟩ (ki_Mo l G cA p0 H.size) (cwI 0 hgw (kws_good (List.mem_of_getElem? (i := 1129) (by decide +kernel))) rfl rfl rfl (hts _ (List.mem_of_getElem? (i := 70) (by decide +kernel))) (hts _ (List.mem_of_getElem? (i := 1127) (by decide +kernel))) (hts _ (List.mem_of_getElem? (i := 1128) (by decide +kernel))) rfl (by decide +kernel) ⟨Nat.le_of_ble_eq_true rfl, Nat.le_of_ble_eq_true rfl⟩) ⟨kB_blind, fun U hU hW => ⟨rfl, kB_of (ws := [] ++ kw_At q0 cA v) hK I hU hW⟩⟩ rfl rfl hl.1 rfl (lv_room (Nat.le_of_ble_eq_true rfl)) (show decode code 12 = .ok (.invokespecial 12, 3) by decide +kernel) ⟨Nat.le_of_ble_eq_true rfl, Nat.le_of_ble_eq_true rfl⟩) I hA (fun u H locs I => ?_)
  refine W.widen (k := 80) (n := 11237) (by omega) (by omega) ?_
  refine lv_astore_n (lv' := [(2, .ref p0), (1, .ref q0), (0, .ref b)]) hx hb (show decode code 15 = .ok (.astore_n 2, 1) by decide +kernel) rfl hl (by decide) rfl (fun ls hl => ?_)
  refine lv_iconst (v := 0) hx hb (show decode code 16 = .ok (.iconst 0, 1) by decide +kernel) rfl ?_
  refine lv_istore_n (lv' := [(3, .int 0), (2, .ref p0), (1, .ref q0), (0, .ref b)]) hx hb (show decode code 17 = .ok (.istore_n 3, 1) by decide +kernel) rfl hl (by decide) rfl (fun ls hl => ?_)
  exact law_go l hL C0 hK hgw (by exact ⟨z1, T1⟩) (by exact ⟨z2, T2⟩) (by exact ⟨z3, T3⟩) I hl
