/-! the atlas's own constructor -/
theorem k_new {p : Program} {l : Launch} {e : Env} {R : Room} {s : State} {m : MethodId} {args : Array Value} {below : List Frame} {meth : Method} {c : Code} {cc : ByteArray} {own : String} {G : va_G} {cA : ClassId} {A : Nat → Prop} {H : Heap} {locs : List Loc} {cells slots pc : Nat} {Q : State → Prop} {lsC : Array Slot} {o ci N idx : Nat} {Cn : String} {fs : List Value} {ty : Nat → FieldType} {ws : va_W} (F : kF p s m args meth c cc own G cA A) (I : kI s A G H locs ws) (h0 : lsC[0]? = some (.val (.ref o))) (hci : ci < 13) (hC : (am_cls.getD ci cdf).1 = Cn) (hN : (am_cls.getD ci cdf).2.2 = N) (hty : ∀ k, k < N → parseFieldDescriptor ((am_cls.getD ci cdf).2.1 k).2.2.1 = some (ty k)) (hfs : ∀ j, j < N → defaultValue (ty j) = vp_V fs j) (hw1 : Cond.classLink own idx Cn ∈ lw_tbl) (hw2 : Cond.instantiable Cn N ∈ lw_tbl) (hw3 : Cond.initialized Cn ∈ lw_tbl) (hcl : cells + 1 ≤ R.cells) (hsl : slots + N ≤ R.slots) (d0 : decode cc pc = .ok (.aload_n 0, 1)) (d1 : decode cc (pc + 1) = .ok (.new idx, 3)) (d2 : decode cc (pc + 4) = .ok (.dup, 1)) (kk : ∀ (q : Nat) (H1 : Heap), kI s A G H1 locs (ws ++ [(q, .inr (ci, fs))]) → W p l e R s m args below meth c H1 locs (cells + 1) (slots + N) Q (F0 m (pc + 5) lsC [.ref q, .ref q, .ref o])) : W p l e R s m args below meth c H locs cells slots Q (F0 m pc lsC []) := by
  obtain ⟨⟨hx, hb, hown, hts⟩, hin, hK, hA⟩ := F
  obtain ⟨hP, hD, hS⟩ := I
  subst hC
  subst hN
  refine lv_aload_n hx hb d0 rfl h0 ?_
  refine va_new hx hb hts (cls_ok hci).1 ty hty hown (hts _ (gw hw1 rfl)) (hts _ (gw hw2 rfl)) (hts _ (gw hw3 rfl)) hK hP hD hS hA (cls_at hci) (fs := fs) hfs hcl hsl d1 (fun q H1 hP1 hD1 hS1 => ?_)
  exact lv_dup hx hb d2 rfl (kk q H1 ⟨hP1, hD1, hS1⟩)
theorem k_arg {p : Program} {l : Launch} {e : Env} {R : Room} {s : State} {m : MethodId} {args : Array Value} {below : List Frame} {meth : Method} {c : Code} {cc : ByteArray} {own : String} {G : va_G} {cA : ClassId} {A : Nat → Prop} {H : Heap} {locs : List Loc} {cells slots pc : Nat} {Q : State → Prop} {lsC : Array Slot} {o ci x idx : Nat} {v : Value} {fs rest : List Value} {ws : va_W} (F : kF p s m args meth c cc own G cA A) (I : kI s A G H locs ((o, .inr (ci, fs)) :: ws)) (h0 : lsC[0]? = some (.val (.ref o))) (hci : ci < 13) (hx1 : x < (am_cls.getD ci cdf).2.2) (hv : fs[x]? = some v) (hl : Cond.fieldLink own idx ((am_cls.getD ci cdf).2.1 x).1 ((am_cls.getD ci cdf).2.1 x).2.1 ((am_cls.getD ci cdf).2.1 x).2.2.1 ∈ lw_tbl) (d0 : decode cc pc = .ok (.aload_n 0, 1)) (d1 : decode cc (pc + 1) = .ok (.getfield idx, 3)) (kk : W p l e R s m args below meth c H locs cells slots Q (F0 m (pc + 4) lsC (v :: rest))) : W p l e R s m args below meth c H locs cells slots Q (F0 m pc lsC rest) := by
  obtain ⟨⟨hx, hb, hown, hts⟩, hin, hK, hA⟩ := F
  obtain ⟨hP, hD, hS⟩ := I
  refine lv_aload_n hx hb d0 rfl h0 ?_
  exact va_get hx hb hts (cls_ok hci).1 hown hK hP 0 (fs := fs) rfl (cls_at hci) x hx1 (hts _ (gw hl rfl)) (fun _ z => z) hv d1 kk
theorem k_put {p : Program} {l : Launch} {e : Env} {R : Room} {s : State} {m : MethodId} {args : Array Value} {below : List Frame} {meth : Method} {c : Code} {cc : ByteArray} {own : String} {G : va_G} {cA : ClassId} {A : Nat → Prop} {H : Heap} {locs : List Loc} {cells slots pc : Nat} {Q : State → Prop} {lsC : Array Slot} {o ci x idx r : Nat} {ty : FieldType} {fs : List Value} {ws : va_W} (F : kF p s m args meth c cc own G cA A) (I : kI s A G H locs ((o, .inr (ci, fs)) :: ws)) (hci : ci < 13) (hx1 : x < fs.length) (hN : fs.length = (am_cls.getD ci cdf).2.2) (hfin : ((am_cls.getD ci cdf).2.1 x).2.2.2 = true) (hdecl : ((am_cls.getD ci cdf).2.1 x).1 = own) (hty : parseFieldDescriptor ((am_cls.getD ci cdf).2.1 x).2.2.1 = some ty) (hnr : narrow ty (.ref r) = .ref r) (hfit : fits ty (.ref r) = true) (hl : Cond.fieldLink own idx ((am_cls.getD ci cdf).2.1 x).1 ((am_cls.getD ci cdf).2.1 x).2.1 ((am_cls.getD ci cdf).2.1 x).2.2.1 ∈ lw_tbl) (d3 : decode cc pc = .ok (.putfield idx, 3)) (kk : ∀ (H1 : Heap) (locs1 : List Loc), kI s A G H1 locs1 ((o, .inr (ci, fs.set x (.ref r))) :: ws) → W p l e R s m args below meth c H1 locs1 cells slots Q (F0 m (pc + 3) lsC [])) : W p l e R s m args below meth c H locs cells slots Q (F0 m pc lsC [.ref r, .ref o]) := by
  obtain ⟨⟨hx, hb, hown, hts⟩, hin, hK, hA⟩ := F
  obtain ⟨hP, hD, hS⟩ := I
  obtain ⟨ty0, hty0⟩ := (cls_ok hci).2.2
  exact va_putF hx hb hts (cls_ok hci).1 ty0 hty0 (cls_ok hci).2.1 hown hK hP hD hS 0 (fs := fs) rfl (cls_at hci) x (by omega) (hts _ (gw hl rfl)) (fun _ z => z) hfin hin hdecl (ty := ty) (v := .ref r) hty hnr hfit hx1 d3 (fun H2 locs2 hP2 hD2 hS2 => kk H2 locs2 ⟨hP2, hD2, hS2⟩)
theorem kws_good {y : MethodName} {b : ByteArray} {n : Nat} (hc : Cond.code y b n none ∈ lw_tbl) : GoodIn am_gw (kws y b n) := by
  intro w hw
  rcases List.mem_cons.mp hw with z | z
  · rw [z]; exact ⟨gw hc rfl, good_of_word rfl⟩
  · exact ⟨z, good_of_word (List.mem_filter.mp z).2⟩

def k_nest (U : State) : Prop := va_Nw (.methodLinkNest "DialectAtlas" 9 ⟨"DialectAtlas$Land", "<init>", "()V"⟩ "DialectAtlas") U ∧ va_Nw (.methodLinkNest "DialectAtlas" 18 ⟨"DialectAtlas$Asked", "<init>", "()V"⟩ "DialectAtlas") U ∧ va_Nw (.methodLinkNest "DialectAtlas" 25 ⟨"DialectAtlas$Forms", "<init>", "()V"⟩ "DialectAtlas") U ∧ va_Nw (.methodLinkNest "DialectAtlas" 84 ⟨"DialectAtlas$Sheets", "<init>", "()V"⟩ "DialectAtlas") U ∧ va_Nw (.methodLinkNest "DialectAtlas" 91 ⟨"DialectAtlas$History", "<init>", "()V"⟩ "DialectAtlas") U
def kw_At (o : Nat) (cA : ClassId) (v : Nat → Nat) : va_W := (o, .inr (11, [.ref (v 100), .ref (v 200), .ref (v 300), .ref (v 400), .ref (v 500), .ref (v 600), .ref (v 700), .ref (v 800), .ref (v 900), .ref (v 1000), .ref (v 1100), .ref (v 1200), .int 0, .int 0])) :: (((((((((((([] ++ kw_Land (v 100) cA (fun i => v (100 + 1 + i))) ++ kw_Asked (v 200) cA (fun i => v (200 + 1 + i))) ++ kw_Forms (v 300) cA (fun i => v (300 + 1 + i))) ++ kw_Answers (v 400) (v 200) cA (fun i => v (400 + 1 + i))) ++ kw_Texts (v 500) (v 300) cA (fun i => v (500 + 1 + i))) ++ kw_Border (v 600) (v 100) (v 400) cA (fun i => v (600 + 1 + i))) ++ kw_Dialects (v 700) (v 100) (v 300) (v 400) cA (fun i => v (700 + 1 + i))) ++ kw_Tour (v 800) (v 100) cA (fun i => v (800 + 1 + i))) ++ kw_Spread (v 900) (v 100) cA (fun i => v (900 + 1 + i))) ++ kw_Sheets (v 1000) cA (fun i => v (1000 + 1 + i))) ++ kw_History (v 1100) cA (fun i => v (1100 + 1 + i))) ++ [((v 1200), .inl (cA, 30, .inl zr))])
set_option maxHeartbeats 8000000 in
set_option maxRecDepth 100000 in
theorem ki_At (l : Launch) (G : va_G) (cA : ClassId) (o sz : Nat) : Met l ⟨"DialectAtlas", "<init>", "()V"⟩ (kws ⟨"DialectAtlas", "<init>", "()V"⟩ prog_1_method_1_code 1) ({ frames := 2, cells := 55, slots := 3490, locals := 64 }) (va_Pc [.ref o] (fun U => kB G cA sz [(o, .inr (11, [.null, .null, .null, .null, .null, .null, .null, .null, .null, .null, .null, .null, .int 0, .int 0]))] U ∧ k_nest U)) (kQ G (kw_At o cA) (va_A [(o, .inr (11, [.null, .null, .null, .null, .null, .null, .null, .null, .null, .null, .null, .null, .int 0, .int 0]))] sz)) 55 3490 (va_A [(o, .inr (11, [.null, .null, .null, .null, .null, .null, .null, .null, .null, .null, .null, .null, .int 0, .int 0]))] sz) := by
  refine Met.ofW (cc := prog_1_method_1_code) (maxL := 1) (ret := none) (by decide +kernel) rfl ?_
  intro p e s m args below meth c s₁ B hml hv
  obtain ⟨rfl, ⟨hsz, hP, hK, hD0⟩, hN⟩ := hv
  have hts0 := atoms_spec (ws := kws ⟨"DialectAtlas", "<init>", "()V"⟩ prog_1_method_1_code 1) B.pre
  have hown : s.vm.findClass "DialectAtlas" = some m.cls := findClass_of_methodNamed B.named
  have hin : meth.name = "<init>" := (name_of_methodNamed B.named B.method).1
  have hlocks := B.notSynchronized
  have hr := B.returns
  subst hsz
  have hD := hD0.self (sz := s.heap.size)
  have F : kF p s m ([.ref o] : List Value).toArray meth c prog_1_method_1_code "DialectAtlas" G cA (va_A [(o, .inr (11, [.null, .null, .null, .null, .null, .null, .null, .null, .null, .null, .null, .null, .int 0, .int 0]))] s.heap.size) := ⟨⟨B.exec, B.bytes, hown, fun w hw => hts0 w (List.mem_cons_of_mem _ hw)⟩, hin, hK, fun q z => Or.inr z⟩
  have I : kI s (va_A [(o, .inr (11, [.null, .null, .null, .null, .null, .null, .null, .null, .null, .null, .null, .null, .int 0, .int 0]))] s.heap.size) G s.heap [] [(o, .inr (11, [.null, .null, .null, .null, .null, .null, .null, .null, .null, .null, .null, .null, .int 0, .int 0]))] := ⟨hP, hD, va_S.rf⟩
  have hl := lv_entry ([.ref o] : List Value) (n := 1) (Nat.le_of_ble_eq_true rfl)
  rw [lg_entry_eq]
  generalize (lg_sl ([.ref o] : List Value) ++ List.replicate (1 - (lg_sl ([.ref o] : List Value)).length) Slot.unset).toArray = ls at hl ⊢
  have hl : lv_has ls 1 [(0, .ref o)] := hl
  have h0 := lv_at hl 0 rfl
  refine k_obj (pc := 0) (idx := 1) F (by rw [hml]; exact hl.1) h0 (List.mem_of_getElem? (i := 80) (by decide +kernel)) k_ow (Nat.le_of_ble_eq_true rfl) (Nat.le_of_ble_eq_true rfl) (by decide +kernel) (by decide +kernel) ?_
  refine k_new (pc := 4) (ci := 6) (N := 6) (idx := 7) (Cn := "DialectAtlas$Land") (fs := [.int 0, .null, .null, .null, .null, .null]) (ty := tyX6) F I h0 (by decide) rfl rfl tyX6_ok (fun j hj => by
    match j, hj with
    | 0, _ => rfl
    | 1, _ => rfl
    | 2, _ => rfl
    | 3, _ => rfl
    | 4, _ => rfl
    | 5, _ => rfl
    | j + 6, hj => omega) (List.mem_of_getElem? (i := 83) (by decide +kernel)) (List.mem_of_getElem? (i := 84) (by decide +kernel)) (List.mem_of_getElem? (i := 59) (by decide +kernel)) (Nat.le_of_ble_eq_true rfl) (Nat.le_of_ble_eq_true rfl) (by decide +kernel) (by decide +kernel) (by decide +kernel) (fun q1 H I => ?_)
  refine W.widen (k := 1) (n := 6) (by omega) (by omega) ?_
  refine k_run (pc := 9) (f := kw_Land q1 cA) (va_runIN (index := 9) (As := []) (rest := [.ref q1, .ref o]) (bytes := prog_8_method_1_code) (maxL := 1) (n := 0) ⟨F.1.1, F.1.2.1, hml, F.1.2.2.1, F.1.2.2.2⟩ (ki_Land l G cA q1 H.size) ⟨va_cnB 0 F.1.2.2.2 (kws_good (List.mem_of_getElem? (i := 87) (by decide +kernel))) rfl rfl rfl hN.1 (F.1.2.2.2 _ (gw (List.mem_of_getElem? (i := 59) (by decide +kernel)) rfl)) (by decide +kernel) ⟨(Nat.le_of_ble_eq_true rfl), (Nat.le_of_ble_eq_true rfl)⟩, rfl, F.1.2.2.2 _ (gw (List.mem_of_getElem? (i := 86) (by decide +kernel)) rfl)⟩ ⟨kB_blind, fun U hU hW => ⟨rfl, kB_of (ws := _) hK I hU hW⟩⟩ rfl rfl hl.1 rfl (lv_room (Nat.le_of_ble_eq_true rfl)) (show decode prog_1_method_1_code 9 = .ok (.invokespecial 9, 3) by decide +kernel) ⟨(Nat.le_of_ble_eq_true rfl), (Nat.le_of_ble_eq_true rfl)⟩) I F.2.2.2 (fun u1 H locs I => ?_)
  refine W.widen (k := 6) (n := 198) (by omega) (by omega) ?_
  refine k_put (pc := 12) (ci := 11) (x := 0) (idx := 10) (ty := .object "DialectAtlas$Land") F I (by decide) (Nat.le_of_ble_eq_true rfl) rfl rfl rfl (by decide +kernel) rfl rfl (List.mem_of_getElem? (i := 371) (by decide +kernel)) (by decide +kernel) (fun H locs I => ?_)
  have I : kI s (va_A [(o, .inr (11, [.null, .null, .null, .null, .null, .null, .null, .null, .null, .null, .null, .null, .int 0, .int 0]))] s.heap.size) G H locs ((o, .inr (11, [.ref q1, .null, .null, .null, .null, .null, .null, .null, .null, .null, .null, .null, .int 0, .int 0])) :: ([] ++ kw_Land q1 cA u1)) := I
  refine k_new (pc := 15) (ci := 1) (N := 4) (idx := 16) (Cn := "DialectAtlas$Asked") (fs := [.int 0, .null, .null, .null]) (ty := tyX1) F I h0 (by decide) rfl rfl tyX1_ok (fun j hj => by
    match j, hj with
    | 0, _ => rfl
    | 1, _ => rfl
    | 2, _ => rfl
    | 3, _ => rfl
    | j + 4, hj => omega) (List.mem_of_getElem? (i := 109) (by decide +kernel)) (List.mem_of_getElem? (i := 110) (by decide +kernel)) (List.mem_of_getElem? (i := 60) (by decide +kernel)) (Nat.le_of_ble_eq_true rfl) (Nat.le_of_ble_eq_true rfl) (by decide +kernel) (by decide +kernel) (by decide +kernel) (fun q2 H I => ?_)
  refine W.widen (k := 7) (n := 202) (by omega) (by omega) ?_
  refine k_run (pc := 20) (f := kw_Asked q2 cA) (va_runIN (index := 18) (As := []) (rest := [.ref q2, .ref o]) (bytes := prog_3_method_1_code) (maxL := 1) (n := 0) ⟨F.1.1, F.1.2.1, hml, F.1.2.2.1, F.1.2.2.2⟩ (ki_Asked l G cA q2 H.size) ⟨va_cnB 0 F.1.2.2.2 (kws_good (List.mem_of_getElem? (i := 113) (by decide +kernel))) rfl rfl rfl hN.2.1 (F.1.2.2.2 _ (gw (List.mem_of_getElem? (i := 60) (by decide +kernel)) rfl)) (by decide +kernel) ⟨(Nat.le_of_ble_eq_true rfl), (Nat.le_of_ble_eq_true rfl)⟩, rfl, F.1.2.2.2 _ (gw (List.mem_of_getElem? (i := 112) (by decide +kernel)) rfl)⟩ ⟨kB_blind, fun U hU hW => ⟨rfl, kB_of (ws := _) hK I hU hW⟩⟩ rfl rfl hl.1 rfl (lv_room (Nat.le_of_ble_eq_true rfl)) (show decode prog_1_method_1_code 20 = .ok (.invokespecial 18, 3) by decide +kernel) ⟨(Nat.le_of_ble_eq_true rfl), (Nat.le_of_ble_eq_true rfl)⟩) I F.2.2.2 (fun u2 H locs I => ?_)
  refine W.widen (k := 10) (n := 262) (by omega) (by omega) ?_
  refine k_put (pc := 23) (ci := 11) (x := 1) (idx := 19) (ty := .object "DialectAtlas$Asked") F I (by decide) (Nat.le_of_ble_eq_true rfl) rfl rfl rfl (by decide +kernel) rfl rfl (List.mem_of_getElem? (i := 372) (by decide +kernel)) (by decide +kernel) (fun H locs I => ?_)
  have I : kI s (va_A [(o, .inr (11, [.null, .null, .null, .null, .null, .null, .null, .null, .null, .null, .null, .null, .int 0, .int 0]))] s.heap.size) G H locs ((o, .inr (11, [.ref q1, .ref q2, .null, .null, .null, .null, .null, .null, .null, .null, .null, .null, .int 0, .int 0])) :: (([] ++ kw_Land q1 cA u1) ++ kw_Asked q2 cA u2)) := I
  refine k_new (pc := 26) (ci := 4) (N := 7) (idx := 23) (Cn := "DialectAtlas$Forms") (fs := [.int 0, .null, .null, .int 0, .null, .null, .null]) (ty := tyX4) F I h0 (by decide) rfl rfl tyX4_ok (fun j hj => by
    match j, hj with
    | 0, _ => rfl
    | 1, _ => rfl
    | 2, _ => rfl
    | 3, _ => rfl
    | 4, _ => rfl
    | 5, _ => rfl
    | 6, _ => rfl
    | j + 7, hj => omega) (List.mem_of_getElem? (i := 128) (by decide +kernel)) (List.mem_of_getElem? (i := 129) (by decide +kernel)) (List.mem_of_getElem? (i := 61) (by decide +kernel)) (Nat.le_of_ble_eq_true rfl) (Nat.le_of_ble_eq_true rfl) (by decide +kernel) (by decide +kernel) (by decide +kernel) (fun q3 H I => ?_)
  refine W.widen (k := 11) (n := 269) (by omega) (by omega) ?_
  refine k_run (pc := 31) (f := kw_Forms q3 cA) (va_runIN (index := 25) (As := []) (rest := [.ref q3, .ref o]) (bytes := prog_6_method_1_code) (maxL := 1) (n := 0) ⟨F.1.1, F.1.2.1, hml, F.1.2.2.1, F.1.2.2.2⟩ (ki_Forms l G cA q3 H.size) ⟨va_cnB 0 F.1.2.2.2 (kws_good (List.mem_of_getElem? (i := 132) (by decide +kernel))) rfl rfl rfl hN.2.2.1 (F.1.2.2.2 _ (gw (List.mem_of_getElem? (i := 61) (by decide +kernel)) rfl)) (by decide +kernel) ⟨(Nat.le_of_ble_eq_true rfl), (Nat.le_of_ble_eq_true rfl)⟩, rfl, F.1.2.2.2 _ (gw (List.mem_of_getElem? (i := 131) (by decide +kernel)) rfl)⟩ ⟨kB_blind, fun U hU hW => ⟨rfl, kB_of (ws := _) hK I hU hW⟩⟩ rfl rfl hl.1 rfl (lv_room (Nat.le_of_ble_eq_true rfl)) (show decode prog_1_method_1_code 31 = .ok (.invokespecial 25, 3) by decide +kernel) ⟨(Nat.le_of_ble_eq_true rfl), (Nat.le_of_ble_eq_true rfl)⟩) I F.2.2.2 (fun u3 H locs I => ?_)
  refine W.widen (k := 16) (n := 1456) (by omega) (by omega) ?_
  refine k_put (pc := 34) (ci := 11) (x := 2) (idx := 26) (ty := .object "DialectAtlas$Forms") F I (by decide) (Nat.le_of_ble_eq_true rfl) rfl rfl rfl (by decide +kernel) rfl rfl (List.mem_of_getElem? (i := 373) (by decide +kernel)) (by decide +kernel) (fun H locs I => ?_)
  have I : kI s (va_A [(o, .inr (11, [.null, .null, .null, .null, .null, .null, .null, .null, .null, .null, .null, .null, .int 0, .int 0]))] s.heap.size) G H locs ((o, .inr (11, [.ref q1, .ref q2, .ref q3, .null, .null, .null, .null, .null, .null, .null, .null, .null, .int 0, .int 0])) :: ((([] ++ kw_Land q1 cA u1) ++ kw_Asked q2 cA u2) ++ kw_Forms q3 cA u3)) := I
  refine k_new (pc := 37) (ci := 0) (N := 8) (idx := 30) (Cn := "DialectAtlas$Answers") (fs := [.null, .int 0, .null, .null, .null, .null, .null, .null]) (ty := tyX0) F I h0 (by decide) rfl rfl tyX0_ok (fun j hj => by
    match j, hj with
    | 0, _ => rfl
    | 1, _ => rfl
    | 2, _ => rfl
    | 3, _ => rfl
    | 4, _ => rfl
    | 5, _ => rfl
    | 6, _ => rfl
    | 7, _ => rfl
    | j + 8, hj => omega) (List.mem_of_getElem? (i := 156) (by decide +kernel)) (List.mem_of_getElem? (i := 157) (by decide +kernel)) (List.mem_of_getElem? (i := 62) (by decide +kernel)) (Nat.le_of_ble_eq_true rfl) (Nat.le_of_ble_eq_true rfl) (by decide +kernel) (by decide +kernel) (by decide +kernel) (fun q4 H I => ?_)
  refine W.widen (k := 17) (n := 1464) (by omega) (by omega) ?_
  refine k_arg (pc := 42) (ci := 11) (x := 1) (idx := 19) (v := .ref q2) F I h0 (by decide) (by decide) rfl (List.mem_of_getElem? (i := 372) (by decide +kernel)) (by decide +kernel) (by decide +kernel) ?_
  refine k_run (pc := 46) (f := kw_Answers q4 q2 cA) (va_runI (index := 32) (As := [.ref q2]) (rest := [.ref q4, .ref o]) (bytes := prog_2_method_1_code) (maxL := 2) (n := 1) ⟨F.1.1, F.1.2.1, hml, F.1.2.2.1, F.1.2.2.2⟩ (ki_Answers l G cA q4 H.size q2) (cwI 1 F.1.2.2.2 (kws_good (List.mem_of_getElem? (i := 160) (by decide +kernel))) rfl rfl rfl (F.1.2.2.2 _ (gw (List.mem_of_getElem? (i := 62) (by decide +kernel)) rfl)) (F.1.2.2.2 _ (gw (List.mem_of_getElem? (i := 158) (by decide +kernel)) rfl)) (F.1.2.2.2 _ (gw (List.mem_of_getElem? (i := 159) (by decide +kernel)) rfl)) rfl (by decide +kernel) ⟨(Nat.le_of_ble_eq_true rfl), (Nat.le_of_ble_eq_true rfl)⟩) ⟨kB_blind, fun U hU hW => ⟨rfl, kB_of (ws := _) hK I hU hW⟩⟩ rfl rfl hl.1 rfl (lv_room (Nat.le_of_ble_eq_true rfl)) (show decode prog_1_method_1_code 46 = .ok (.invokespecial 32, 3) by decide +kernel) ⟨(Nat.le_of_ble_eq_true rfl), (Nat.le_of_ble_eq_true rfl)⟩) I F.2.2.2 (fun u4 H locs I => ?_)
  refine W.widen (k := 23) (n := 1794) (by omega) (by omega) ?_
  refine k_put (pc := 49) (ci := 11) (x := 3) (idx := 35) (ty := .object "DialectAtlas$Answers") F I (by decide) (Nat.le_of_ble_eq_true rfl) rfl rfl rfl (by decide +kernel) rfl rfl (List.mem_of_getElem? (i := 374) (by decide +kernel)) (by decide +kernel) (fun H locs I => ?_)
  have I : kI s (va_A [(o, .inr (11, [.null, .null, .null, .null, .null, .null, .null, .null, .null, .null, .null, .null, .int 0, .int 0]))] s.heap.size) G H locs ((o, .inr (11, [.ref q1, .ref q2, .ref q3, .ref q4, .null, .null, .null, .null, .null, .null, .null, .null, .int 0, .int 0])) :: (((([] ++ kw_Land q1 cA u1) ++ kw_Asked q2 cA u2) ++ kw_Forms q3 cA u3) ++ kw_Answers q4 q2 cA u4)) := I
  refine k_new (pc := 52) (ci := 9) (N := 10) (idx := 39) (Cn := "DialectAtlas$Texts") (fs := [.null, .int 0, .null, .null, .null, .null, .null, .null, .int 0, .null]) (ty := tyX9) F I h0 (by decide) rfl rfl tyX9_ok (fun j hj => by
    match j, hj with
    | 0, _ => rfl
    | 1, _ => rfl
    | 2, _ => rfl
    | 3, _ => rfl
    | 4, _ => rfl
    | 5, _ => rfl
    | 6, _ => rfl
    | 7, _ => rfl
    | 8, _ => rfl
    | 9, _ => rfl
    | j + 10, hj => omega) (List.mem_of_getElem? (i := 187) (by decide +kernel)) (List.mem_of_getElem? (i := 188) (by decide +kernel)) (List.mem_of_getElem? (i := 63) (by decide +kernel)) (Nat.le_of_ble_eq_true rfl) (Nat.le_of_ble_eq_true rfl) (by decide +kernel) (by decide +kernel) (by decide +kernel) (fun q5 H I => ?_)
  refine W.widen (k := 24) (n := 1804) (by omega) (by omega) ?_
  refine k_arg (pc := 57) (ci := 11) (x := 2) (idx := 26) (v := .ref q3) F I h0 (by decide) (by decide) rfl (List.mem_of_getElem? (i := 373) (by decide +kernel)) (by decide +kernel) (by decide +kernel) ?_
  refine k_run (pc := 61) (f := kw_Texts q5 q3 cA) (va_runI (index := 41) (As := [.ref q3]) (rest := [.ref q5, .ref o]) (bytes := prog_11_method_1_code) (maxL := 2) (n := 1) ⟨F.1.1, F.1.2.1, hml, F.1.2.2.1, F.1.2.2.2⟩ (ki_Texts l G cA q5 H.size q3) (cwI 1 F.1.2.2.2 (kws_good (List.mem_of_getElem? (i := 191) (by decide +kernel))) rfl rfl rfl (F.1.2.2.2 _ (gw (List.mem_of_getElem? (i := 63) (by decide +kernel)) rfl)) (F.1.2.2.2 _ (gw (List.mem_of_getElem? (i := 189) (by decide +kernel)) rfl)) (F.1.2.2.2 _ (gw (List.mem_of_getElem? (i := 190) (by decide +kernel)) rfl)) rfl (by decide +kernel) ⟨(Nat.le_of_ble_eq_true rfl), (Nat.le_of_ble_eq_true rfl)⟩) ⟨kB_blind, fun U hU hW => ⟨rfl, kB_of (ws := _) hK I hU hW⟩⟩ rfl rfl hl.1 rfl (lv_room (Nat.le_of_ble_eq_true rfl)) (show decode prog_1_method_1_code 61 = .ok (.invokespecial 41, 3) by decide +kernel) ⟨(Nat.le_of_ble_eq_true rfl), (Nat.le_of_ble_eq_true rfl)⟩) I F.2.2.2 (fun u5 H locs I => ?_)
  refine W.widen (k := 31) (n := 2088) (by omega) (by omega) ?_
  refine k_put (pc := 64) (ci := 11) (x := 4) (idx := 44) (ty := .object "DialectAtlas$Texts") F I (by decide) (Nat.le_of_ble_eq_true rfl) rfl rfl rfl (by decide +kernel) rfl rfl (List.mem_of_getElem? (i := 375) (by decide +kernel)) (by decide +kernel) (fun H locs I => ?_)
  have I : kI s (va_A [(o, .inr (11, [.null, .null, .null, .null, .null, .null, .null, .null, .null, .null, .null, .null, .int 0, .int 0]))] s.heap.size) G H locs ((o, .inr (11, [.ref q1, .ref q2, .ref q3, .ref q4, .ref q5, .null, .null, .null, .null, .null, .null, .null, .int 0, .int 0])) :: ((((([] ++ kw_Land q1 cA u1) ++ kw_Asked q2 cA u2) ++ kw_Forms q3 cA u3) ++ kw_Answers q4 q2 cA u4) ++ kw_Texts q5 q3 cA u5)) := I
  refine k_new (pc := 67) (ci := 2) (N := 8) (idx := 48) (Cn := "DialectAtlas$Border") (fs := [.null, .null, .int 0, .int 0, .int 0, .int 0, .int 0, .int 0]) (ty := tyX2) F I h0 (by decide) rfl rfl tyX2_ok (fun j hj => by
    match j, hj with
    | 0, _ => rfl
    | 1, _ => rfl
    | 2, _ => rfl
    | 3, _ => rfl
    | 4, _ => rfl
    | 5, _ => rfl
    | 6, _ => rfl
    | 7, _ => rfl
    | j + 8, hj => omega) (List.mem_of_getElem? (i := 224) (by decide +kernel)) (List.mem_of_getElem? (i := 225) (by decide +kernel)) (List.mem_of_getElem? (i := 64) (by decide +kernel)) (Nat.le_of_ble_eq_true rfl) (Nat.le_of_ble_eq_true rfl) (by decide +kernel) (by decide +kernel) (by decide +kernel) (fun q6 H I => ?_)
  refine W.widen (k := 32) (n := 2096) (by omega) (by omega) ?_
  refine k_arg (pc := 72) (ci := 11) (x := 0) (idx := 10) (v := .ref q1) F I h0 (by decide) (by decide) rfl (List.mem_of_getElem? (i := 371) (by decide +kernel)) (by decide +kernel) (by decide +kernel) ?_
  refine k_arg (pc := 76) (ci := 11) (x := 3) (idx := 35) (v := .ref q4) F I h0 (by decide) (by decide) rfl (List.mem_of_getElem? (i := 374) (by decide +kernel)) (by decide +kernel) (by decide +kernel) ?_
  refine k_run (pc := 80) (f := kw_Border q6 q1 q4 cA) (va_runI (index := 50) (As := [.ref q1, .ref q4]) (rest := [.ref q6, .ref o]) (bytes := prog_4_method_1_code) (maxL := 3) (n := 2) ⟨F.1.1, F.1.2.1, hml, F.1.2.2.1, F.1.2.2.2⟩ (ki_Border l G cA q6 H.size q1 q4) (cwI 2 F.1.2.2.2 (kws_good (List.mem_of_getElem? (i := 228) (by decide +kernel))) rfl rfl rfl (F.1.2.2.2 _ (gw (List.mem_of_getElem? (i := 64) (by decide +kernel)) rfl)) (F.1.2.2.2 _ (gw (List.mem_of_getElem? (i := 226) (by decide +kernel)) rfl)) (F.1.2.2.2 _ (gw (List.mem_of_getElem? (i := 227) (by decide +kernel)) rfl)) rfl (by decide +kernel) ⟨(Nat.le_of_ble_eq_true rfl), (Nat.le_of_ble_eq_true rfl)⟩) ⟨kB_blind, fun U hU hW => ⟨rfl, kB_of (ws := _) hK I hU hW⟩⟩ rfl rfl hl.1 rfl (lv_room (Nat.le_of_ble_eq_true rfl)) (show decode prog_1_method_1_code 80 = .ok (.invokespecial 50, 3) by decide +kernel) ⟨(Nat.le_of_ble_eq_true rfl), (Nat.le_of_ble_eq_true rfl)⟩) I F.2.2.2 (fun u6 H locs I => ?_)
  refine W.widen (k := 32) (n := 2096) (by omega) (by omega) ?_
  refine k_put (pc := 83) (ci := 11) (x := 5) (idx := 53) (ty := .object "DialectAtlas$Border") F I (by decide) (Nat.le_of_ble_eq_true rfl) rfl rfl rfl (by decide +kernel) rfl rfl (List.mem_of_getElem? (i := 376) (by decide +kernel)) (by decide +kernel) (fun H locs I => ?_)
  have I : kI s (va_A [(o, .inr (11, [.null, .null, .null, .null, .null, .null, .null, .null, .null, .null, .null, .null, .int 0, .int 0]))] s.heap.size) G H locs ((o, .inr (11, [.ref q1, .ref q2, .ref q3, .ref q4, .ref q5, .ref q6, .null, .null, .null, .null, .null, .null, .int 0, .int 0])) :: (((((([] ++ kw_Land q1 cA u1) ++ kw_Asked q2 cA u2) ++ kw_Forms q3 cA u3) ++ kw_Answers q4 q2 cA u4) ++ kw_Texts q5 q3 cA u5) ++ kw_Border q6 q1 q4 cA u6)) := I
  refine k_new (pc := 86) (ci := 3) (N := 10) (idx := 57) (Cn := "DialectAtlas$Dialects") (fs := [.null, .null, .null, .null, .null, .null, .null, .null, .int 0, .int 0]) (ty := tyX3) F I h0 (by decide) rfl rfl tyX3_ok (fun j hj => by
    match j, hj with
    | 0, _ => rfl
    | 1, _ => rfl
    | 2, _ => rfl
    | 3, _ => rfl
    | 4, _ => rfl
    | 5, _ => rfl
    | 6, _ => rfl
    | 7, _ => rfl
    | 8, _ => rfl
    | 9, _ => rfl
    | j + 10, hj => omega) (List.mem_of_getElem? (i := 255) (by decide +kernel)) (List.mem_of_getElem? (i := 256) (by decide +kernel)) (List.mem_of_getElem? (i := 65) (by decide +kernel)) (Nat.le_of_ble_eq_true rfl) (Nat.le_of_ble_eq_true rfl) (by decide +kernel) (by decide +kernel) (by decide +kernel) (fun q7 H I => ?_)
  refine W.widen (k := 33) (n := 2106) (by omega) (by omega) ?_
  refine k_arg (pc := 91) (ci := 11) (x := 0) (idx := 10) (v := .ref q1) F I h0 (by decide) (by decide) rfl (List.mem_of_getElem? (i := 371) (by decide +kernel)) (by decide +kernel) (by decide +kernel) ?_
  refine k_arg (pc := 95) (ci := 11) (x := 2) (idx := 26) (v := .ref q3) F I h0 (by decide) (by decide) rfl (List.mem_of_getElem? (i := 373) (by decide +kernel)) (by decide +kernel) (by decide +kernel) ?_
  refine k_arg (pc := 99) (ci := 11) (x := 3) (idx := 35) (v := .ref q4) F I h0 (by decide) (by decide) rfl (List.mem_of_getElem? (i := 374) (by decide +kernel)) (by decide +kernel) (by decide +kernel) ?_
  refine k_run (pc := 103) (f := kw_Dialects q7 q1 q3 q4 cA) (va_runI (index := 59) (As := [.ref q1, .ref q3, .ref q4]) (rest := [.ref q7, .ref o]) (bytes := prog_5_method_1_code) (maxL := 4) (n := 3) ⟨F.1.1, F.1.2.1, hml, F.1.2.2.1, F.1.2.2.2⟩ (ki_Dialects l G cA q7 H.size q1 q3 q4) (cwI 3 F.1.2.2.2 (kws_good (List.mem_of_getElem? (i := 259) (by decide +kernel))) rfl rfl rfl (F.1.2.2.2 _ (gw (List.mem_of_getElem? (i := 65) (by decide +kernel)) rfl)) (F.1.2.2.2 _ (gw (List.mem_of_getElem? (i := 257) (by decide +kernel)) rfl)) (F.1.2.2.2 _ (gw (List.mem_of_getElem? (i := 258) (by decide +kernel)) rfl)) rfl (by decide +kernel) ⟨(Nat.le_of_ble_eq_true rfl), (Nat.le_of_ble_eq_true rfl)⟩) ⟨kB_blind, fun U hU hW => ⟨rfl, kB_of (ws := _) hK I hU hW⟩⟩ rfl rfl hl.1 rfl (lv_room (Nat.le_of_ble_eq_true rfl)) (show decode prog_1_method_1_code 103 = .ok (.invokespecial 59, 3) by decide +kernel) ⟨(Nat.le_of_ble_eq_true rfl), (Nat.le_of_ble_eq_true rfl)⟩) I F.2.2.2 (fun u7 H locs I => ?_)
  refine W.widen (k := 38) (n := 2338) (by omega) (by omega) ?_
  refine k_put (pc := 106) (ci := 11) (x := 6) (idx := 62) (ty := .object "DialectAtlas$Dialects") F I (by decide) (Nat.le_of_ble_eq_true rfl) rfl rfl rfl (by decide +kernel) rfl rfl (List.mem_of_getElem? (i := 377) (by decide +kernel)) (by decide +kernel) (fun H locs I => ?_)
  have I : kI s (va_A [(o, .inr (11, [.null, .null, .null, .null, .null, .null, .null, .null, .null, .null, .null, .null, .int 0, .int 0]))] s.heap.size) G H locs ((o, .inr (11, [.ref q1, .ref q2, .ref q3, .ref q4, .ref q5, .ref q6, .ref q7, .null, .null, .null, .null, .null, .int 0, .int 0])) :: ((((((([] ++ kw_Land q1 cA u1) ++ kw_Asked q2 cA u2) ++ kw_Forms q3 cA u3) ++ kw_Answers q4 q2 cA u4) ++ kw_Texts q5 q3 cA u5) ++ kw_Border q6 q1 q4 cA u6) ++ kw_Dialects q7 q1 q3 q4 cA u7)) := I
  refine k_new (pc := 109) (ci := 10) (N := 7) (idx := 66) (Cn := "DialectAtlas$Tour") (fs := [.null, .int 0, .null, .null, .null, .null, .int 0]) (ty := tyX10) F I h0 (by decide) rfl rfl tyX10_ok (fun j hj => by
    match j, hj with
    | 0, _ => rfl
    | 1, _ => rfl
    | 2, _ => rfl
    | 3, _ => rfl
    | 4, _ => rfl
    | 5, _ => rfl
    | 6, _ => rfl
    | j + 7, hj => omega) (List.mem_of_getElem? (i := 292) (by decide +kernel)) (List.mem_of_getElem? (i := 293) (by decide +kernel)) (List.mem_of_getElem? (i := 66) (by decide +kernel)) (Nat.le_of_ble_eq_true rfl) (Nat.le_of_ble_eq_true rfl) (by decide +kernel) (by decide +kernel) (by decide +kernel) (fun q8 H I => ?_)
  refine W.widen (k := 39) (n := 2345) (by omega) (by omega) ?_
  refine k_arg (pc := 114) (ci := 11) (x := 0) (idx := 10) (v := .ref q1) F I h0 (by decide) (by decide) rfl (List.mem_of_getElem? (i := 371) (by decide +kernel)) (by decide +kernel) (by decide +kernel) ?_
  refine k_run (pc := 118) (f := kw_Tour q8 q1 cA) (va_runI (index := 68) (As := [.ref q1]) (rest := [.ref q8, .ref o]) (bytes := prog_12_method_1_code) (maxL := 2) (n := 1) ⟨F.1.1, F.1.2.1, hml, F.1.2.2.1, F.1.2.2.2⟩ (ki_Tour l G cA q8 H.size q1) (cwI 1 F.1.2.2.2 (kws_good (List.mem_of_getElem? (i := 296) (by decide +kernel))) rfl rfl rfl (F.1.2.2.2 _ (gw (List.mem_of_getElem? (i := 66) (by decide +kernel)) rfl)) (F.1.2.2.2 _ (gw (List.mem_of_getElem? (i := 294) (by decide +kernel)) rfl)) (F.1.2.2.2 _ (gw (List.mem_of_getElem? (i := 295) (by decide +kernel)) rfl)) rfl (by decide +kernel) ⟨(Nat.le_of_ble_eq_true rfl), (Nat.le_of_ble_eq_true rfl)⟩) ⟨kB_blind, fun U hU hW => ⟨rfl, kB_of (ws := _) hK I hU hW⟩⟩ rfl rfl hl.1 rfl (lv_room (Nat.le_of_ble_eq_true rfl)) (show decode prog_1_method_1_code 118 = .ok (.invokespecial 68, 3) by decide +kernel) ⟨(Nat.le_of_ble_eq_true rfl), (Nat.le_of_ble_eq_true rfl)⟩) I F.2.2.2 (fun u8 H locs I => ?_)
  refine W.widen (k := 43) (n := 3320) (by omega) (by omega) ?_
  refine k_put (pc := 121) (ci := 11) (x := 7) (idx := 71) (ty := .object "DialectAtlas$Tour") F I (by decide) (Nat.le_of_ble_eq_true rfl) rfl rfl rfl (by decide +kernel) rfl rfl (List.mem_of_getElem? (i := 378) (by decide +kernel)) (by decide +kernel) (fun H locs I => ?_)
  have I : kI s (va_A [(o, .inr (11, [.null, .null, .null, .null, .null, .null, .null, .null, .null, .null, .null, .null, .int 0, .int 0]))] s.heap.size) G H locs ((o, .inr (11, [.ref q1, .ref q2, .ref q3, .ref q4, .ref q5, .ref q6, .ref q7, .ref q8, .null, .null, .null, .null, .int 0, .int 0])) :: (((((((([] ++ kw_Land q1 cA u1) ++ kw_Asked q2 cA u2) ++ kw_Forms q3 cA u3) ++ kw_Answers q4 q2 cA u4) ++ kw_Texts q5 q3 cA u5) ++ kw_Border q6 q1 q4 cA u6) ++ kw_Dialects q7 q1 q3 q4 cA u7) ++ kw_Tour q8 q1 cA u8)) := I
  refine k_new (pc := 124) (ci := 8) (N := 3) (idx := 75) (Cn := "DialectAtlas$Spread") (fs := [.null, .null, .null]) (ty := tyX8) F I h0 (by decide) rfl rfl tyX8_ok (fun j hj => by
    match j, hj with
    | 0, _ => rfl
    | 1, _ => rfl
    | 2, _ => rfl
    | j + 3, hj => omega) (List.mem_of_getElem? (i := 320) (by decide +kernel)) (List.mem_of_getElem? (i := 321) (by decide +kernel)) (List.mem_of_getElem? (i := 67) (by decide +kernel)) (Nat.le_of_ble_eq_true rfl) (Nat.le_of_ble_eq_true rfl) (by decide +kernel) (by decide +kernel) (by decide +kernel) (fun q9 H I => ?_)
  refine W.widen (k := 44) (n := 3323) (by omega) (by omega) ?_
  refine k_arg (pc := 129) (ci := 11) (x := 0) (idx := 10) (v := .ref q1) F I h0 (by decide) (by decide) rfl (List.mem_of_getElem? (i := 371) (by decide +kernel)) (by decide +kernel) (by decide +kernel) ?_
  refine k_run (pc := 133) (f := kw_Spread q9 q1 cA) (va_runI (index := 77) (As := [.ref q1]) (rest := [.ref q9, .ref o]) (bytes := prog_10_method_1_code) (maxL := 2) (n := 1) ⟨F.1.1, F.1.2.1, hml, F.1.2.2.1, F.1.2.2.2⟩ (ki_Spread l G cA q9 H.size q1) (cwI 1 F.1.2.2.2 (kws_good (List.mem_of_getElem? (i := 324) (by decide +kernel))) rfl rfl rfl (F.1.2.2.2 _ (gw (List.mem_of_getElem? (i := 67) (by decide +kernel)) rfl)) (F.1.2.2.2 _ (gw (List.mem_of_getElem? (i := 322) (by decide +kernel)) rfl)) (F.1.2.2.2 _ (gw (List.mem_of_getElem? (i := 323) (by decide +kernel)) rfl)) rfl (by decide +kernel) ⟨(Nat.le_of_ble_eq_true rfl), (Nat.le_of_ble_eq_true rfl)⟩) ⟨kB_blind, fun U hU hW => ⟨rfl, kB_of (ws := _) hK I hU hW⟩⟩ rfl rfl hl.1 rfl (lv_room (Nat.le_of_ble_eq_true rfl)) (show decode prog_1_method_1_code 133 = .ok (.invokespecial 77, 3) by decide +kernel) ⟨(Nat.le_of_ble_eq_true rfl), (Nat.le_of_ble_eq_true rfl)⟩) I F.2.2.2 (fun u9 H locs I => ?_)
  refine W.widen (k := 46) (n := 3347) (by omega) (by omega) ?_
  refine k_put (pc := 136) (ci := 11) (x := 8) (idx := 78) (ty := .object "DialectAtlas$Spread") F I (by decide) (Nat.le_of_ble_eq_true rfl) rfl rfl rfl (by decide +kernel) rfl rfl (List.mem_of_getElem? (i := 379) (by decide +kernel)) (by decide +kernel) (fun H locs I => ?_)
  have I : kI s (va_A [(o, .inr (11, [.null, .null, .null, .null, .null, .null, .null, .null, .null, .null, .null, .null, .int 0, .int 0]))] s.heap.size) G H locs ((o, .inr (11, [.ref q1, .ref q2, .ref q3, .ref q4, .ref q5, .ref q6, .ref q7, .ref q8, .ref q9, .null, .null, .null, .int 0, .int 0])) :: ((((((((([] ++ kw_Land q1 cA u1) ++ kw_Asked q2 cA u2) ++ kw_Forms q3 cA u3) ++ kw_Answers q4 q2 cA u4) ++ kw_Texts q5 q3 cA u5) ++ kw_Border q6 q1 q4 cA u6) ++ kw_Dialects q7 q1 q3 q4 cA u7) ++ kw_Tour q8 q1 cA u8) ++ kw_Spread q9 q1 cA u9)) := I
  refine k_new (pc := 139) (ci := 7) (N := 3) (idx := 82) (Cn := "DialectAtlas$Sheets") (fs := [.null, .null, .null]) (ty := tyX7) F I h0 (by decide) rfl rfl tyX7_ok (fun j hj => by
    match j, hj with
    | 0, _ => rfl
    | 1, _ => rfl
    | 2, _ => rfl
    | j + 3, hj => omega) (List.mem_of_getElem? (i := 336) (by decide +kernel)) (List.mem_of_getElem? (i := 337) (by decide +kernel)) (List.mem_of_getElem? (i := 68) (by decide +kernel)) (Nat.le_of_ble_eq_true rfl) (Nat.le_of_ble_eq_true rfl) (by decide +kernel) (by decide +kernel) (by decide +kernel) (fun q10 H I => ?_)
  refine W.widen (k := 47) (n := 3350) (by omega) (by omega) ?_
  refine k_run (pc := 144) (f := kw_Sheets q10 cA) (va_runIN (index := 84) (As := []) (rest := [.ref q10, .ref o]) (bytes := prog_9_method_1_code) (maxL := 1) (n := 0) ⟨F.1.1, F.1.2.1, hml, F.1.2.2.1, F.1.2.2.2⟩ (ki_Sheets l G cA q10 H.size) ⟨va_cnB 0 F.1.2.2.2 (kws_good (List.mem_of_getElem? (i := 340) (by decide +kernel))) rfl rfl rfl hN.2.2.2.1 (F.1.2.2.2 _ (gw (List.mem_of_getElem? (i := 68) (by decide +kernel)) rfl)) (by decide +kernel) ⟨(Nat.le_of_ble_eq_true rfl), (Nat.le_of_ble_eq_true rfl)⟩, rfl, F.1.2.2.2 _ (gw (List.mem_of_getElem? (i := 339) (by decide +kernel)) rfl)⟩ ⟨kB_blind, fun U hU hW => ⟨rfl, kB_of (ws := _) hK I hU hW⟩⟩ rfl rfl hl.1 rfl (lv_room (Nat.le_of_ble_eq_true rfl)) (show decode prog_1_method_1_code 144 = .ok (.invokespecial 84, 3) by decide +kernel) ⟨(Nat.le_of_ble_eq_true rfl), (Nat.le_of_ble_eq_true rfl)⟩) I F.2.2.2 (fun u10 H locs I => ?_)
  refine W.widen (k := 50) (n := 3438) (by omega) (by omega) ?_
  refine k_put (pc := 147) (ci := 11) (x := 9) (idx := 85) (ty := .object "DialectAtlas$Sheets") F I (by decide) (Nat.le_of_ble_eq_true rfl) rfl rfl rfl (by decide +kernel) rfl rfl (List.mem_of_getElem? (i := 380) (by decide +kernel)) (by decide +kernel) (fun H locs I => ?_)
  have I : kI s (va_A [(o, .inr (11, [.null, .null, .null, .null, .null, .null, .null, .null, .null, .null, .null, .null, .int 0, .int 0]))] s.heap.size) G H locs ((o, .inr (11, [.ref q1, .ref q2, .ref q3, .ref q4, .ref q5, .ref q6, .ref q7, .ref q8, .ref q9, .ref q10, .null, .null, .int 0, .int 0])) :: (((((((((([] ++ kw_Land q1 cA u1) ++ kw_Asked q2 cA u2) ++ kw_Forms q3 cA u3) ++ kw_Answers q4 q2 cA u4) ++ kw_Texts q5 q3 cA u5) ++ kw_Border q6 q1 q4 cA u6) ++ kw_Dialects q7 q1 q3 q4 cA u7) ++ kw_Tour q8 q1 cA u8) ++ kw_Spread q9 q1 cA u9) ++ kw_Sheets q10 cA u10)) := I
  refine k_new (pc := 150) (ci := 5) (N := 4) (idx := 89) (Cn := "DialectAtlas$History") (fs := [.int 0, .null, .null, .null]) (ty := tyX5) F I h0 (by decide) rfl rfl tyX5_ok (fun j hj => by
    match j, hj with
    | 0, _ => rfl
    | 1, _ => rfl
    | 2, _ => rfl
    | 3, _ => rfl
    | j + 4, hj => omega) (List.mem_of_getElem? (i := 352) (by decide +kernel)) (List.mem_of_getElem? (i := 353) (by decide +kernel)) (List.mem_of_getElem? (i := 69) (by decide +kernel)) (Nat.le_of_ble_eq_true rfl) (Nat.le_of_ble_eq_true rfl) (by decide +kernel) (by decide +kernel) (by decide +kernel) (fun q11 H I => ?_)
  refine W.widen (k := 51) (n := 3442) (by omega) (by omega) ?_
  refine k_run (pc := 155) (f := kw_History q11 cA) (va_runIN (index := 91) (As := []) (rest := [.ref q11, .ref o]) (bytes := prog_7_method_1_code) (maxL := 1) (n := 0) ⟨F.1.1, F.1.2.1, hml, F.1.2.2.1, F.1.2.2.2⟩ (ki_History l G cA q11 H.size) ⟨va_cnB 0 F.1.2.2.2 (kws_good (List.mem_of_getElem? (i := 356) (by decide +kernel))) rfl rfl rfl hN.2.2.2.2 (F.1.2.2.2 _ (gw (List.mem_of_getElem? (i := 69) (by decide +kernel)) rfl)) (by decide +kernel) ⟨(Nat.le_of_ble_eq_true rfl), (Nat.le_of_ble_eq_true rfl)⟩, rfl, F.1.2.2.2 _ (gw (List.mem_of_getElem? (i := 355) (by decide +kernel)) rfl)⟩ ⟨kB_blind, fun U hU hW => ⟨rfl, kB_of (ws := _) hK I hU hW⟩⟩ rfl rfl hl.1 rfl (lv_room (Nat.le_of_ble_eq_true rfl)) (show decode prog_1_method_1_code 155 = .ok (.invokespecial 91, 3) by decide +kernel) ⟨(Nat.le_of_ble_eq_true rfl), (Nat.le_of_ble_eq_true rfl)⟩) I F.2.2.2 (fun u11 H locs I => ?_)
  refine W.widen (k := 54) (n := 3460) (by omega) (by omega) ?_
  refine k_put (pc := 158) (ci := 11) (x := 10) (idx := 92) (ty := .object "DialectAtlas$History") F I (by decide) (Nat.le_of_ble_eq_true rfl) rfl rfl rfl (by decide +kernel) rfl rfl (List.mem_of_getElem? (i := 381) (by decide +kernel)) (by decide +kernel) (fun H locs I => ?_)
  have I : kI s (va_A [(o, .inr (11, [.null, .null, .null, .null, .null, .null, .null, .null, .null, .null, .null, .null, .int 0, .int 0]))] s.heap.size) G H locs ((o, .inr (11, [.ref q1, .ref q2, .ref q3, .ref q4, .ref q5, .ref q6, .ref q7, .ref q8, .ref q9, .ref q10, .ref q11, .null, .int 0, .int 0])) :: ((((((((((([] ++ kw_Land q1 cA u1) ++ kw_Asked q2 cA u2) ++ kw_Forms q3 cA u3) ++ kw_Answers q4 q2 cA u4) ++ kw_Texts q5 q3 cA u5) ++ kw_Border q6 q1 q4 cA u6) ++ kw_Dialects q7 q1 q3 q4 cA u7) ++ kw_Tour q8 q1 cA u8) ++ kw_Spread q9 q1 cA u9) ++ kw_Sheets q10 cA u10) ++ kw_History q11 cA u11)) := I
  refine k_arr (pc := 161) (ci := 11) (x := 11) (n := 30) (idx := 96) (w := 2) F I h0 (by decide) (Nat.le_of_ble_eq_true rfl) rfl rfl rfl (by decide +kernel) (List.mem_of_getElem? (i := 382) (by decide +kernel)) k_ac (Nat.le_of_ble_eq_true rfl) (Nat.le_of_ble_eq_true rfl) (by decide) (by decide +kernel) (lv_bipush (n := 30) F.1.1 F.1.2.1 (by decide +kernel) (by decide +kernel)) (by decide +kernel) (by decide +kernel) (fun q12 H locs I => ?_)
  have I : kI s (va_A [(o, .inr (11, [.null, .null, .null, .null, .null, .null, .null, .null, .null, .null, .null, .null, .int 0, .int 0]))] s.heap.size) G H locs ((o, .inr (11, [.ref q1, .ref q2, .ref q3, .ref q4, .ref q5, .ref q6, .ref q7, .ref q8, .ref q9, .ref q10, .ref q11, .ref q12, .int 0, .int 0])) :: (((((((((((([] ++ kw_Land q1 cA u1) ++ kw_Asked q2 cA u2) ++ kw_Forms q3 cA u3) ++ kw_Answers q4 q2 cA u4) ++ kw_Texts q5 q3 cA u5) ++ kw_Border q6 q1 q4 cA u6) ++ kw_Dialects q7 q1 q3 q4 cA u7) ++ kw_Tour q8 q1 cA u8) ++ kw_Spread q9 q1 cA u9) ++ kw_Sheets q10 cA u10) ++ kw_History q11 cA u11) ++ [(q12, .inl (cA, 30, .inl zr))])) := I
  refine W.widen (k := 55) (n := 3490) (by omega) (by omega) ?_
  exact W.vret (pc := 169) B.exec B.bytes hr (fun t ht hW => ⟨⟨rfl, (fun z => if z / 100 = 1 then (if z % 100 = 0 then q1 else u1 (z % 100 - 1)) else if z / 100 = 2 then (if z % 100 = 0 then q2 else u2 (z % 100 - 1)) else if z / 100 = 3 then (if z % 100 = 0 then q3 else u3 (z % 100 - 1)) else if z / 100 = 4 then (if z % 100 = 0 then q4 else u4 (z % 100 - 1)) else if z / 100 = 5 then (if z % 100 = 0 then q5 else u5 (z % 100 - 1)) else if z / 100 = 6 then (if z % 100 = 0 then q6 else u6 (z % 100 - 1)) else if z / 100 = 7 then (if z % 100 = 0 then q7 else u7 (z % 100 - 1)) else if z / 100 = 8 then (if z % 100 = 0 then q8 else u8 (z % 100 - 1)) else if z / 100 = 9 then (if z % 100 = 0 then q9 else u9 (z % 100 - 1)) else if z / 100 = 10 then (if z % 100 = 0 then q10 else u10 (z % 100 - 1)) else if z / 100 = 11 then (if z % 100 = 0 then q11 else u11 (z % 100 - 1)) else if z / 100 = 12 then (if z % 100 = 0 then q12 else 0) else 0), by rw [ht]; exact I.1, I.2.1⟩, I.2.2.F ht⟩) I.2.2.2.2 (by decide +kernel) hlocks
