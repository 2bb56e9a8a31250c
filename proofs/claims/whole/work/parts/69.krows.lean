/-! rows for constructors -/
def kF (p : Program) (s : State) (m : MethodId) (args : Array Value) (meth : Method) (c : Code) (cc : ByteArray) (own : String) (G : va_G) (cA : ClassId) (A : Nat → Prop) : Prop := (p.tables.exec = Jvm.exec ∧ c.code = cc ∧ s.vm.findClass own = some m.cls ∧ ∀ w ∈ am_gw, w.before args s = true) ∧ meth.name = "<init>" ∧ va_K G am_cls [(cA, .int)] s ∧ ∀ q, s.heap.size ≤ q → A q
def kI (s : State) (A : Nat → Prop) (G : va_G) (H : Heap) (locs : List Loc) (ws : va_W) : Prop := va_P G am_cls ws H ∧ va_D A ws ∧ va_S A s.heap H locs
def kB (G : va_G) (cA : ClassId) (sz : Nat) (ws : va_W) (U : State) : Prop := U.heap.size = sz ∧ va_P G am_cls ws U.heap ∧ va_K G am_cls [(cA, .int)] U ∧ va_D (fun _ => True) ws
def kQ (G : va_G) (f : (Nat → Nat) → va_W) (A : Nat → Prop) : Array Value → State → Outcome → State → Prop := fun _ st oc t => (oc = .returned none ∧ ∃ u, va_P G am_cls (f u) t.heap ∧ va_D A (f u)) ∧ va_F A st t
def zr : Nat → Int32 := fun _ => 0
theorem k_cA {s : State} {G : va_G} {cA cA2 : ClassId} (hK : va_K G am_cls [(cA, .int)] s) (hK2 : va_K G am_cls ([(cA, .int)] ++ [(cA2, .int)]) s) : cA2 = cA := by
  have g1 : s.vm.findClass ("[" ++ FieldType.int.toString) = some cA := (hK.2 0 _ rfl).2
  have g2 : s.vm.findClass ("[" ++ FieldType.int.toString) = some cA2 := (hK2.2 1 _ rfl).2
  rw [g1] at g2; exact (Option.some.inj g2).symm
theorem k_obj {p : Program} {l : Launch} {e : Env} {R : Room} {s : State} {m : MethodId} {args : Array Value} {below : List Frame} {meth : Method} {c : Code} {cc : ByteArray} {own : String} {G : va_G} {cA : ClassId} {A : Nat → Prop} {H : Heap} {locs : List Loc} {cells slots pc : Nat} {Q : State → Prop} {lsC : Array Slot} {o idx : Nat} (F : kF p s m args meth c cc own G cA A) (hz : lsC.size = c.maxLocals) (h0 : lsC[0]? = some (.val (.ref o))) (hl : Cond.methodLink own idx Lib.objectInit ∈ lw_tbl) (hw : Cond.instanceMethod Lib.objectInit ∈ lw_tbl ∧ Cond.code Lib.objectInit ⟨#[0xb1]⟩ 1 none ∈ lw_tbl) (hf : 1 ≤ R.frames) (hloc : 12 ≤ R.locals) (d0 : decode cc pc = .ok (.aload_n 0, 1)) (d1 : decode cc (pc + 1) = .ok (.invokespecial idx, 3)) (kk : W p l e R s m args below meth c H locs cells slots Q (F0 m (pc + 4) lsC [])) : W p l e R s m args below meth c H locs cells slots Q (F0 m pc lsC []) := by
  obtain ⟨⟨hx, hb, hown, hts⟩, hin, hK, hA⟩ := F
  refine lv_aload_n hx hb d0 rfl h0 ?_
  exact W.objInit hx hb hown (hts _ (gw hl rfl)) (hts _ (gw hw.1 rfl)) (hts _ (gw hw.2 rfl)) rfl hz rfl d1 hf (by show 2 * 0 + 0 + 12 ≤ R.locals; omega) kk
/-- aload_0, a number, newarray, putfield -/
theorem k_arr {p : Program} {l : Launch} {e : Env} {R : Room} {s : State} {m : MethodId} {args : Array Value} {below : List Frame} {meth : Method} {c : Code} {cc : ByteArray} {own : String} {G : va_G} {cA : ClassId} {A : Nat → Prop} {H : Heap} {locs : List Loc} {cells slots pc : Nat} {Q : State → Prop} {lsC : Array Slot} {o ci x n idx w : Nat} {fs : List Value} {ws : va_W} (F : kF p s m args meth c cc own G cA A) (I : kI s A G H locs ((o, .inr (ci, fs)) :: ws)) (h0 : lsC[0]? = some (.val (.ref o))) (hci : ci < 13) (hx1 : x < fs.length) (hN : fs.length = (am_cls.getD ci cdf).2.2) (hfin : ((am_cls.getD ci cdf).2.1 x).2.2.2 = true) (hdecl : ((am_cls.getD ci cdf).2.1 x).1 = own) (hty : parseFieldDescriptor ((am_cls.getD ci cdf).2.1 x).2.2.1 = some (.array .int)) (hl : Cond.fieldLink own idx ((am_cls.getD ci cdf).2.1 x).1 ((am_cls.getD ci cdf).2.1 x).2.1 ((am_cls.getD ci cdf).2.1 x).2.2.1 ∈ lw_tbl) (hAC : Cond.arrayClass .int ∈ lw_tbl) (hcl : cells + 1 ≤ R.cells) (hsl : slots + n ≤ R.slots) (hn : n < 100000) (d0 : decode cc pc = .ok (.aload_n 0, 1)) (push : W p l e R s m args below meth c H locs cells slots Q (F0 m (pc + 1 + w) lsC [.int (nI n), .ref o]) → W p l e R s m args below meth c H locs cells slots Q (F0 m (pc + 1) lsC [.ref o])) (d2 : decode cc (pc + 1 + w) = .ok (.newarray .int, 2)) (d3 : decode cc (pc + 1 + w + 2) = .ok (.putfield idx, 3)) (kk : ∀ (q : Nat) (H1 : Heap) (locs1 : List Loc), kI s A G H1 locs1 ((o, .inr (ci, fs.set x (.ref q))) :: (ws ++ [(q, .inl (cA, n, .inl zr))])) → W p l e R s m args below meth c H1 locs1 (cells + 1) (slots + n) Q (F0 m (pc + 1 + w + 2 + 3) lsC [])) : W p l e R s m args below meth c H locs cells slots Q (F0 m pc lsC []) := by
  obtain ⟨⟨hx, hb, hown, hts⟩, hin, hK, hA⟩ := F
  obtain ⟨hP, hD, hS⟩ := I
  refine lv_aload_n hx hb d0 rfl h0 (push ?_)
  refine va_newa (a0 := (n, .inl zr)) hx hb (atype := .int) (hts _ (gw hAC rfl)) (ty := .int) rfl hK hP hD hS hA (fun cA => rfl) (nI_pos (by omega)) (nI_clamp (by omega)) (by show n * 4 ≤ 536870912; omega) hcl hsl d2 (fun q cA2 H1 hK2 hP1 hD1 hS1 => ?_)
  have eA := k_cA hK hK2
  subst eA
  obtain ⟨ty0, hty0⟩ := (cls_ok hci).2.2
  refine va_putF hx hb hts (cls_ok hci).1 ty0 hty0 (cls_ok hci).2.1 hown hK hP1 hD1 hS1 0 (fs := fs) rfl (cls_at hci) x (by omega) (hts _ (gw hl rfl)) (fun _ z => z) hfin hin hdecl (ty := .array .int) (v := .ref q) hty rfl rfl hx1 d3 (fun H2 locs2 hP2 hD2 hS2 => ?_)
  exact kk q H2 locs2 ⟨hP2, hD2, hS2⟩
/-- aload_0, aload_k, putfield -/
theorem k_ref {p : Program} {l : Launch} {e : Env} {R : Room} {s : State} {m : MethodId} {args : Array Value} {below : List Frame} {meth : Method} {c : Code} {cc : ByteArray} {own : String} {G : va_G} {cA : ClassId} {A : Nat → Prop} {H : Heap} {locs : List Loc} {cells slots pc : Nat} {Q : State → Prop} {lsC : Array Slot} {o ci x idx r : Nat} {f : Fin 4} {ty : FieldType} {fs : List Value} {ws : va_W} (F : kF p s m args meth c cc own G cA A) (I : kI s A G H locs ((o, .inr (ci, fs)) :: ws)) (h0 : lsC[0]? = some (.val (.ref o))) (hr : lsC[f.val]? = some (.val (.ref r))) (hci : ci < 13) (hx1 : x < fs.length) (hN : fs.length = (am_cls.getD ci cdf).2.2) (hfin : ((am_cls.getD ci cdf).2.1 x).2.2.2 = true) (hdecl : ((am_cls.getD ci cdf).2.1 x).1 = own) (hty : parseFieldDescriptor ((am_cls.getD ci cdf).2.1 x).2.2.1 = some ty) (hnr : narrow ty (.ref r) = .ref r) (hfit : fits ty (.ref r) = true) (hl : Cond.fieldLink own idx ((am_cls.getD ci cdf).2.1 x).1 ((am_cls.getD ci cdf).2.1 x).2.1 ((am_cls.getD ci cdf).2.1 x).2.2.1 ∈ lw_tbl) (d0 : decode cc pc = .ok (.aload_n 0, 1)) (d1 : decode cc (pc + 1) = .ok (.aload_n f, 1)) (d3 : decode cc (pc + 2) = .ok (.putfield idx, 3)) (kk : ∀ (H1 : Heap) (locs1 : List Loc), kI s A G H1 locs1 ((o, .inr (ci, fs.set x (.ref r))) :: ws) → W p l e R s m args below meth c H1 locs1 cells slots Q (F0 m (pc + 5) lsC [])) : W p l e R s m args below meth c H locs cells slots Q (F0 m pc lsC []) := by
  obtain ⟨⟨hx, hb, hown, hts⟩, hin, hK, hA⟩ := F
  obtain ⟨hP, hD, hS⟩ := I
  refine lv_aload_n hx hb d0 rfl h0 (lv_aload_n hx hb d1 rfl hr ?_)
  obtain ⟨ty0, hty0⟩ := (cls_ok hci).2.2
  exact va_putF hx hb hts (cls_ok hci).1 ty0 hty0 (cls_ok hci).2.1 hown hK hP hD hS 0 (fs := fs) rfl (cls_at hci) x (by omega) (hts _ (gw hl rfl)) (fun _ z => z) hfin hin hdecl (ty := ty) (v := .ref r) hty hnr hfit hx1 d3 (fun H2 locs2 hP2 hD2 hS2 => kk H2 locs2 ⟨hP2, hD2, hS2⟩)
theorem k_run {p : Program} {l : Launch} {e : Env} {R : Room} {s : State} {m : MethodId} {args : Array Value} {below : List Frame} {meth : Method} {c : Code} {H : Heap} {locs : List Loc} {cells slots mc ms pc : Nat} {Q : State → Prop} {ls : Array Slot} {st0 rest : List Value} {aa : Array Value} {G : va_G} {f : (Nat → Nat) → va_W} {x : Nat × va_E} {ws : va_W} {A : Nat → Prop} (hr : va_Run p l e R s m args below meth c H locs cells slots mc ms (F0 m pc ls st0) rest (kQ G f (va_A [x] H.size) aa) (va_A [x] H.size)) (I : kI s A G H locs (ws ++ [x])) (hA : ∀ q, s.heap.size ≤ q → A q)
    (kk : ∀ (u : Nat → Nat) (H1 : Heap) (locs1 : List Loc), kI s A G H1 locs1 (ws ++ f u) → W p l e R s m args below meth c H1 locs1 (cells + mc) (slots + ms) Q (F0 m (pc + 3) ls rest)) : W p l e R s m args below meth c H locs cells slots Q (F0 m pc ls st0) := by
  intro T hT X
  obtain ⟨hP, hD, hS⟩ := I
  obtain ⟨v, st₀, t, T', L', h0, X', hL, e1, e2, ⟨⟨hv, u, hP1, hD1⟩, hz, hk⟩, st⟩ := hr T hT X
  have hv : v = none := by injection hv
  subst hv
  rw [h0] at hz hk
  rw [← e1] at hP1
  have hxat : (ws ++ [x])[ws.length]? = some x := by rw [List.getElem?_append_right (Nat.le_refl _), Nat.sub_self]; rfl
  have hA1 : ∀ q, va_A [x] H.size q → A q := by
    intro q hq
    rcases hq with ⟨j, e, hj⟩ | hq
    · have : (q, e) = x := List.mem_singleton.mp (List.mem_of_getElem? hj)
      rw [show q = x.1 by rw [← this]]
      exact hD.2 ws.length x hxat
    · exact hA q (Nat.le_trans hS.1 hq)
  have hk' : ∀ q : Nat, q < H.size → ¬ va_A [x] H.size q → T'.heap[q]? = H[q]? := fun q h1 h2 => by rw [e1]; exact hk q h1 h2
  have wsat : ∀ (j : Nat) (y : Nat × va_E), ws[j]? = some y → (ws ++ [x])[j]? = some y ∧ j ≠ ws.length := fun j y hj => by
    have hj1 := (List.getElem?_eq_some_iff.mp hj).1
    exact ⟨by rw [List.getElem?_append_left hj1]; exact hj, by omega⟩
  have apart : ∀ (j : Nat) (y : Nat × va_E), ws[j]? = some y → y.1 < H.size ∧ ¬ va_A [x] H.size y.1 := fun j y hj => by
    obtain ⟨a1, a2⟩ := wsat j y hj
    have hl := (hP j y a1).lt
    refine ⟨hl, fun z => ?_⟩
    rcases z with ⟨i, e, hi⟩ | z
    · have : (y.1, e) = x := List.mem_singleton.mp (List.mem_of_getElem? hi)
      exact a2 (hD.1 j ws.length y x a1 hxat (by rw [← this]))
    · omega
  have nP : va_P G am_cls (ws ++ f u) T'.heap := va_P.app (fun j y hj => by
    obtain ⟨g1, g2⟩ := apart j y hj
    exact (hP j y (wsat j y hj).1).kept (hk' y.1 g1 g2)) hP1
  have nD : va_D A (ws ++ f u) := va_D.app ⟨fun i j a b ha hb hab => hD.1 i j a b (wsat i a ha).1 (wsat j b hb).1 hab, fun j y hj => hD.2 j y (wsat j y hj).1⟩ (hD1.weaken (fun _ q _ h => hA1 q.1 h)) (fun i j a b ha hb hab => (apart i a ha).2 (by rw [hab]; exact hD1.2 j b hb))
  obtain ⟨t2, a1, b1⟩ := kk u T'.heap (locs ++ L') ⟨nP, nD, ⟨Nat.le_trans hS.1 (by rw [e1]; exact hz), fun q h1 h2 => by rw [e1, hk q (Nat.lt_of_lt_of_le h1 hS.1) (fun z => h2 (hA1 q z))]; exact hS.2.1 q h1 h2, fun q hq => by
      rcases List.mem_append.mp hq with h | h
      · exact hS.2.2 q h
      · exact hA1 _ (hL q h)⟩⟩ T' rfl X'
  exact ⟨t2, st t2 a1, b1⟩
theorem kB_blind {vs : List Value} {G : va_G} {cA : ClassId} {sz : Nat} {ws : va_W} : FrameBlind (va_Pc vs (kB G cA sz ws)) := by
  intro a U g mk q
  obtain ⟨q0, q1, qP, qK, qD⟩ := q
  exact ⟨q0, q1, qP, va_K.moved (u := U) (U := U.calling g mk a) (Vm.Alike.refl U.vm) qK, qD⟩
theorem kB_of {s U : State} {A : Nat → Prop} {G : va_G} {cA : ClassId} {H : Heap} {locs : List Loc} {ws : va_W} {x : Nat × va_E} (hK : va_K G am_cls [(cA, .int)] s) (I : kI s A G H locs (ws ++ [x])) (hU : U.heap = H) (hW : s.WarmedH U.vm) : kB G cA H.size [x] U := by
  have hxat : (ws ++ [x])[ws.length]? = some x := by rw [List.getElem?_append_right (Nat.le_refl _), Nat.sub_self]; rfl
  refine ⟨by rw [hU], fun j y hj => ?_, va_K.moved hW.alike hK, ⟨fun i j a b ha hb _ => ?_, fun _ _ _ => trivial⟩⟩
  · rw [List.mem_singleton.mp (List.mem_of_getElem? hj), hU]
    exact I.1 ws.length x hxat
  · have := (List.getElem?_eq_some_iff.mp ha).1
    have := (List.getElem?_eq_some_iff.mp hb).1
    simp at *; omega

