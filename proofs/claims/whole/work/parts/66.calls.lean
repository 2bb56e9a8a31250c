/-! calls, contracts -/
def so_ws (k : Nat) : List Cond := Cond.code (am_y k) (am_by k) (am_ml k) (am_rt k) :: am_gw
def so_rm (d k : Nat) : Room := { frames := d, cells := am_ab k, slots := 4 * am_ab k, locals := 64 * d }
def so_B (G : va_G) (cA : ClassId) (ad : Nat → Nat) (h : am_H) (L : Nat) (xs : Int → Int) (sz : Nat) (U : State) : Prop := U.heap.size = sz ∧ va_P G am_cls (ww ad cA h) U.heap ∧ va_K G am_cls [(cA, .int)] U ∧ va_D (fun _ => True) (ww ad cA h) ∧ fx ad (va_A (ww ad cA h) sz) L xs U U.heap
def so_E (G : va_G) (cA : ClassId) (ad : Nat → Nat) (h : am_H) (r : Option am_V) (h' : am_H) (L : Nat) (xs : Int → Int) (A : Nat → Prop) (H : Heap) : Prop := hwf h' L xs ∧ am_n h ≤ am_n h' ∧ (∀ v, r = some v → ∃ a, v = .inl a ∧ am_ok a) ∧ ∃ ad' : Nat → Nat, (∀ q, q < am_n h ∨ 2000 ≤ q → ad' q = ad q) ∧ va_P G am_cls (ww ad' cA h') H ∧ va_D A (ww ad' cA h')
def so_Qc (G : va_G) (cA : ClassId) (ad : Nat → Nat) (h : am_H) (r : Option am_V) (h' : am_H) (L : Nat) (xs : Int → Int) (A : Nat → Prop) : Array Value → State → Outcome → State → Prop := fun _ st oc t => (oc = .returned (r.map (sv ad)) ∧ so_E G cA ad h r h' L xs A t.heap) ∧ va_F A st t
def so_C (l : Launch) (d k : Nat) (vs : List am_V) (h : am_H) (r : Option am_V) (h' : am_H) : Prop := ∀ (G : va_G) (cA : ClassId) (ad : Nat → Nat) (L : Nat) (xs : Int → Int) (sz : Nat), hwf h L xs → (∀ v ∈ vs, sok h v) → Met l (am_y k) (so_ws k) (so_rm d k) (va_Pc (vs.map (sv ad)) (so_B G cA ad h L xs sz)) (so_Qc G cA ad h r h' L xs (va_A (ww ad cA h) sz)) (am_ab k) (4 * am_ab k) (va_A (ww ad cA h) sz)
theorem so_run {p : Program} {l : Launch} {e : Env} {R : Room} {s : State} {m : MethodId} {args : Array Value} {below : List Frame} {meth : Method} {c : Code} {H : Heap} {locs : List Loc} {cells slots mc ms pc L : Nat} {Q : State → Prop} {ls : Array Slot} {st0 rest : List Value} {aa : Array Value} {G : va_G} {cA : ClassId} {ad : Nat → Nat} {h h' : am_H} {r : Option am_V} {xs : Int → Int} {A A1 : Nat → Prop} (hr : va_Run p l e R s m args below meth c H locs cells slots mc ms (F0 m pc ls st0) rest (so_Qc G cA ad h r h' L xs A1 aa) A1) (hS : va_S A s.heap H locs) (hA : ∀ q, A1 q → A q)
    (kk : ∀ (H1 : Heap) (locs1 : List Loc), so_E G cA ad h r h' L xs A1 H1 → va_S A s.heap H1 locs1 → W p l e R s m args below meth c H1 locs1 (cells + mc) (slots + ms) Q (F0 m (pc + 3) ls ((r.map (sv ad)).toList ++ rest))) : W p l e R s m args below meth c H locs cells slots Q (F0 m pc ls st0) := by
  intro T hT X
  obtain ⟨v, st₀, t, T', L', h0, X', hL, e1, e2, ⟨⟨hv, hE⟩, hz, hk⟩, st⟩ := hr T hT X
  have hv : v = r.map (sv ad) := by injection hv
  subst hv
  rw [h0] at hz hk
  rw [← e1] at hE
  obtain ⟨t2, a1, b1⟩ := kk T'.heap (locs ++ L') hE
    ⟨Nat.le_trans hS.1 (by rw [e1]; exact hz), fun q h1 h2 => by rw [e1, hk q (Nat.lt_of_lt_of_le h1 hS.1) (fun z => h2 (hA q z))]; exact hS.2.1 q h1 h2, fun q hq => by
      rcases List.mem_append.mp hq with h | h
      · exact hS.2.2 q h
      · exact hA _ (hL q h)⟩ T' rfl X'
  exact ⟨t2, st t2 a1, b1⟩
theorem am_pop_ok : ∀ (n : Nat) (st acc args rest : List am_V), am_pop n st acc = some (args, rest) → ∃ f, st = f ++ rest ∧ args = f.reverse ++ acc ∧ f.length = n
  | 0, st, acc, args, rest, h => by
    unfold am_pop at h
    cases h
    exact ⟨[], rfl, rfl, rfl⟩
  | n + 1, [], acc, args, rest, h => by cases h
  | n + 1, v :: st, acc, args, rest, h => by
    unfold am_pop at h
    obtain ⟨f, h1, h2, h3⟩ := am_pop_ok n st (v :: acc) args rest h
    exact ⟨v :: f, by rw [h1]; rfl, by rw [h2, List.reverse_cons, List.append_assoc]; rfl, by rw [List.length_cons, h3]⟩
theorem am_pop_of {n : Nat} {st args rest : List am_V} (h : am_pop n st [] = some (args, rest)) : st = args.reverse ++ rest ∧ args.length = n := by
  obtain ⟨f, h1, h2, h3⟩ := am_pop_ok n st [] args rest h
  rw [List.append_nil] at h2
  exact ⟨by rw [h2, List.reverse_reverse]; exact h1, by rw [h2, List.length_reverse]; exact h3⟩
theorem so_blind {vs : List am_V} {G : va_G} {cA : ClassId} {ad : Nat → Nat} {h : am_H} {L sz : Nat} {xs : Int → Int} : FrameBlind (va_Pc (vs.map (sv ad)) (so_B G cA ad h L xs sz)) := by
  intro a U g mk q
  obtain ⟨q0, q1, qP, qK, qD, qX⟩ := q
  exact ⟨q0, q1, qP, va_K.moved (u := U) (U := U.calling g mk a) (Vm.Alike.refl U.vm) qK, qD, fx_mv (u := U) (U := U.calling g mk a) (fun _ _ => rfl) (Vm.Alike.refl U.vm) (Nat.le_refl _) (fun _ _ _ => rfl) (fun _ z => z) qX⟩
theorem so_good {k : Nat} (hc : Cond.code (am_y k) (am_by k) (am_ml k) (am_rt k) ∈ lw_tbl) : GoodIn am_gw (so_ws k) := by
  intro w hw
  rcases List.mem_cons.mp hw with z | z
  · rw [z]; exact ⟨gw hc rfl, good_of_word rfl⟩
  · exact ⟨z, good_of_word (List.mem_filter.mp z).2⟩
theorem so_mok {k : Nat} (h : am_mok k = true) : Cond.initialized (am_y k).cls ∈ lw_tbl ∧ (am_sc k = true → Cond.static (am_y k) ∈ lw_tbl) ∧ (am_sc k = false → Cond.instanceMethod (am_y k) ∈ lw_tbl ∧ Cond.selects (am_y k).cls (am_y k) (am_y k) ∈ lw_tbl ∧ am_ow k < 13) ∧ ((am_y k).cls ≠ "java/lang/invoke/MethodHandle" ∧ (am_y k).cls ≠ "java/lang/invoke/VarHandle") ∧ (parseMethodDescriptor (am_y k).desc).map (fun d => d.parameters.length) = some (am_np k) ∧ (plainName (am_y k).cls = true ∨ k = 87 ∨ k = 88) ∧ (am_y k).cls = am_on (am_ow k) ∧ am_ml k ≤ 45 ∧ (am_rt k = none ∨ am_rt k = some .int ∨ am_rt k = some .boolean) := by
  unfold am_mok at h
  simp only [Bool.and_eq_true, Bool.or_eq_true, decide_eq_true_eq, beq_iff_eq] at h
  obtain ⟨⟨⟨⟨⟨⟨⟨⟨h1, h2⟩, h3⟩, h4⟩, h5⟩, h6⟩, h7⟩, h8⟩, h9⟩ := h
  refine ⟨List.mem_of_getElem? h1, fun z => ?_, fun z => ?_, h3, h4, ?_, h6, h7, h9⟩
  · rw [z, if_pos rfl] at h2
    exact List.mem_of_getElem? (of_decide_eq_true h2)
  · rw [z] at h2 h8
    simp only [Bool.false_eq_true, if_false, Bool.and_eq_true, decide_eq_true_eq] at h2 h8
    exact ⟨List.mem_of_getElem? h2.1, List.mem_of_getElem? h2.2, h8⟩
  · rcases h5 with (z | z) | z
    · exact .inl z
    · exact .inr (.inl z)
    · exact .inr (.inr z)
theorem am_kf_mem {l : List (Nat × Nat × Nat × Nat)} {o idx t : Nat} (h : am_kf l o idx t = true) : ∃ e ∈ l, e.1 = o ∧ e.2.1 = idx ∧ e.2.2.1 = t := by
  unfold am_kf at h
  obtain ⟨e, he, h2⟩ := List.any_eq_true.mp h
  simp only [Bool.and_eq_true, beq_iff_eq] at h2
  exact ⟨e, he, h2.1.1, h2.1.2, h2.2⟩
theorem am_kz_mem {l : List (Nat × Nat × Int × Nat)} {o idx : Nat} {x : Int} (h : am_kz l o idx x = true) : ∃ e ∈ l, e.1 = o ∧ e.2.1 = idx ∧ e.2.2.1 = x := by
  unfold am_kz at h
  obtain ⟨e, he, h2⟩ := List.any_eq_true.mp h
  simp only [Bool.and_eq_true, beq_iff_eq] at h2
  exact ⟨e, he, h2.1.1, h2.1.2, h2.2⟩
theorem am_on_cls {ci : Nat} (h : ci < 13) : (am_cls.getD ci cdf).1 = am_on ci := by
  match ci, h with
  | 0, _ => rfl
  | 1, _ => rfl
  | 2, _ => rfl
  | 3, _ => rfl
  | 4, _ => rfl
  | 5, _ => rfl
  | 6, _ => rfl
  | 7, _ => rfl
  | 8, _ => rfl
  | 9, _ => rfl
  | 10, _ => rfl
  | 11, _ => rfl
  | 12, _ => rfl
  | ci + 13, h => omega
theorem am_oc_of {a o : Nat} (ho : o < 13) (h : am_oc a = (o : Int)) : ∃ fs, am_cell a = .inr (o, fs) := by
  unfold am_oc at h
  by_cases z : a < 80
  · rw [if_pos z] at h
    cases hc : am_cell a with
    | inl n => rw [hc] at h; dsimp only at h; omega
    | inr q =>
      obtain ⟨ci, fs⟩ := q
      rw [hc] at h; dsimp only at h
      have : ci = o := by omega
      subst this; exact ⟨fs, rfl⟩
  · rw [if_neg z] at h; omega
/-- the callee's cells are the caller's -/
theorem so_A1 {A : Nat → Prop} {s : State} {H : Heap} {locs : List Loc} {ad : Nat → Nat} {cA : ClassId} {h : am_H} (hD : va_D A (ww ad cA h)) (hS : va_S A s.heap H locs) (hA : ∀ q, s.heap.size ≤ q → A q) : ∀ q, va_A (ww ad cA h) H.size q → A q := by
  intro q hq
  rcases hq with ⟨j, e, hj⟩ | hq
  · exact hD.2 j (q, e) hj
  · exact hA q (Nat.le_trans hS.1 hq)
theorem so_BU {G : va_G} {cA : ClassId} {ad ad0 : Nat → Nat} {h : am_H} {L : Nat} {xs : Int → Int} {A : Nat → Prop} {s U : State} {H : Heap} {locs : List Loc} (hP : va_P G am_cls (ww ad cA h) H) (hK : va_K G am_cls [(cA, .int)] s) (hD : va_D A (ww ad cA h)) (hS : va_S A s.heap H locs) (hA : ∀ q, s.heap.size ≤ q → A q) (hfx : fx ad0 A L xs s s.heap) (ha : ∀ q, 2000 ≤ q → ad q = ad0 q) (hU : U.heap = H) (hW : s.WarmedH U.vm) : so_B G cA ad h L xs H.size U := by
  refine ⟨by rw [hU], by rw [hU]; exact hP, va_K.moved hW.alike hK, hD.weaken (fun _ _ _ _ => trivial), ?_⟩
  rw [hU]
  exact fx_mv ha hW.alike hS.1 hS.2.1 (so_A1 hD hS hA) hfx
theorem so_stk {ad ad' : Nat → Nat} {h : am_H} {r : Option am_V} {st : List am_V} (hr : ∀ v, r = some v → ∃ a, v = .inl a ∧ am_ok a) (hs : ∀ v ∈ st, sok h v) (e : ∀ q, q < am_n h ∨ 2000 ≤ q → ad' q = ad q) : (r.map (sv ad)).toList ++ st.map (sv ad) = (r.toList ++ st).map (sv ad') := by
  rw [List.map_append, sv_map hs e]
  congr 1
  cases r with
  | none => rfl
  | some v =>
    obtain ⟨a, rfl, -⟩ := hr v rfl
    rfl
theorem so_Lr {k : Nat} {ad ad' : Nat → Nat} {h h' : am_H} {lsC : Array Slot} {ls : am_L} {r : Option am_V} {st : List am_V} (X : so_L k ad h lsC ls st) (hr : ∀ v, r = some v → ∃ a, v = .inl a ∧ am_ok a) (e : ∀ q, q < am_n h ∨ 2000 ≤ q → ad' q = ad q) (hn : am_n h ≤ am_n h') : so_L k ad' h' lsC ls (r.toList ++ st) := by
  refine ⟨⟨slr_cg X.1.2.2 e X.1.1, X.1.2.1, fun i v z => sok_up (X.1.2.2 i v z) hn⟩, fun v hv => ?_⟩
  rcases List.mem_append.mp hv with z | z
  · have hz : r = some v := by
      cases r with
      | none => cases z
      | some w => rw [List.mem_singleton.mp z]
    obtain ⟨a, rfl, oa⟩ := hr v hz
    exact oa
  · exact sok_up (X.2 v z) hn

theorem s_callv {p : Program} {l : Launch} {e : Env} {R : Room} {s : State} {m : MethodId} {args : Array Value} {below : List Frame} {meth : Method} {c : Code} {k d mc ms L : Nat} {G : va_G} {cA : ClassId} {ad0 : Nat → Nat} {h0 : am_H} {A : Nat → Prop} {xs : Int → Int} {Z : State → Prop} {K : Nat → Nat → am_L → List am_V → am_H → Prop} {b pc cells slots : Nat} {ls : am_L} {st : List am_V} {h : am_H} {ad : Nat → Nat} {H : Heap} {locs : List Loc} {lsC : Array Slot} {i t u b1 a : Nat} {st0 vs : List am_V} {r : Option am_V} {h1 : am_H} (F : so_F p R s m args c k d mc ms L G cA ad0 A xs) (KK : so_K p l e R s m args below meth c k mc ms L G cA ad0 h0 A xs Z K) (I : so_I s mc ms L G cA ad0 h0 A xs b cells slots h ad H locs) (Lo : so_L k ad h lsC ls (st0)) (hd : decode (am_by k) pc = .ok (.invokevirtual i, 3)) (hp : am_pop u st0 [] = some (.inr (.inr a) :: vs, st)) (hl : Cond.methodLink (am_on (am_ow k)) i (am_y t) ∈ lw_tbl) (hm : am_mok t = true) (hcw : Cond.code (am_y t) (am_by t) (am_ml t) (am_rt t) ∈ lw_tbl) (hw : am_wd st ≤ 8) (hC : so_C l d t (.inr (.inr a) :: vs) h r h1) (hbb : am_ab t + b1 ≤ b) (hK1 : K b1 (pc + 3) ls (r.toList ++ st) h1) (hu : u = am_np t + 1) (hsc : am_sc t = false) (ho : am_oc a = (am_ow t : Int)) : W p l e R s m args below meth c H locs cells slots Z (F0 m pc lsC ((st0).map (sv ad))) := by
  obtain ⟨⟨hx, hb, hml, hown, hts⟩, ⟨hK, hA, hfx⟩, hRf, hRl, hRc, hRs⟩ := F
  obtain ⟨i1, i2, ⟨hP, hD, hS⟩, i4, i5⟩ := id I
  obtain ⟨hp1, hp2⟩ := am_pop_of hp
  obtain ⟨m1, m2, m3, m4, m5, m6, m7, m8, m9⟩ := so_mok hm
  have L1 : so_L k ad h lsC ls st := so_Ld Lo (fun w q => by rw [hp1]; exact List.mem_append_right _ q)
  have hCB : CallB R s args (am_on (am_ow k)) i (am_y t) (am_by t) (am_ml t) (am_rt t) (so_ws t) (so_rm d t) (am_ab t) (4 * am_ab t) (am_np t) := callB_of (am_np t) hts (so_good hcw) rfl rfl rfl (hts _ (gw m1 rfl)) (hts _ (gw hl rfl)) ⟨m4.1, m4.2, m5⟩ ⟨by show d + 1 ≤ R.frames; omega, by show 8 + (am_ml t + 11) + 64 * d ≤ R.locals; omega⟩
  have hz : lsC.size = am_ml k := Lo.1.1.1.trans Lo.1.2.1
  have hW8 : ((st.map (sv ad)).map fun v => v.category).sum ≤ 8 := by rw [sv_wd]; exact hw
  obtain ⟨n1, n2, n3⟩ := m3 hsc
  obtain ⟨fs, hfs⟩ := am_oc_of n3 ho
  have ob := am_cell_obj hfs
  have n8 := am_n_80 h
  have hrecv := va_recv (q0 := a) (ci := am_ow t) (fs := wfs ad h a fs) hK hP (cls_at n3) (by rw [ww_at (by omega), wce_o hfs])
  rw [am_on_cls n3, ← m7] at hrecv
  have hM := hC G cA ad L xs H.size i1 (fun v hv => Lo.2 v (by rw [hp1]; exact List.mem_append_left _ (List.mem_reverse.mpr hv)))
  have eN : am_ab t + b1 ≤ b := hbb
  refine so_run (va_runV (As := vs.map (sv ad)) (rest := st.map (sv ad)) (b := ad a) (n := am_np t) ⟨hx, hb, hml, hown, hts⟩ hM ⟨hCB, hts _ (gw n1 rfl), hts _ (gw n2 rfl)⟩ ⟨so_blind, hrecv, fun U hU hW => ⟨rfl, so_BU hP hK hD hS hA hfx (fun q hq => i2.2 q (.inr hq)) hU hW⟩⟩ rfl (by rw [List.length_map]; rw [List.length_cons] at hp2; omega) hz (by show (st0).map (sv ad) = _; rw [hp1, List.map_append, List.map_reverse, List.map_cons, List.reverse_cons, List.append_assoc]; rfl) (lv_room hW8) hd ⟨by omega, by omega⟩) hS (so_A1 hD hS hA) (fun H1 locs1 hE hS1 => ?_)
  obtain ⟨w1, w2, w3, ad', g1, g2, g3⟩ := hE
  rw [so_stk w3 L1.2 g1]
  exact KK _ _ _ _ _ hK1 ad' H1 locs1 (cells + am_ab t) (slots + 4 * am_ab t) lsC ⟨w1, ⟨by omega, fun q hq => by rw [g1 q (by omega)]; exact i2.2 q hq⟩, ⟨g2, ⟨g3.1, fun j q hj => so_A1 hD hS hA q.1 (g3.2 j q hj)⟩, hS1⟩, by omega, by omega⟩ (so_Lr L1 w3 g1 w2)
theorem s_calls {p : Program} {l : Launch} {e : Env} {R : Room} {s : State} {m : MethodId} {args : Array Value} {below : List Frame} {meth : Method} {c : Code} {k d mc ms L : Nat} {G : va_G} {cA : ClassId} {ad0 : Nat → Nat} {h0 : am_H} {A : Nat → Prop} {xs : Int → Int} {Z : State → Prop} {K : Nat → Nat → am_L → List am_V → am_H → Prop} {b pc cells slots : Nat} {ls : am_L} {st : List am_V} {h : am_H} {ad : Nat → Nat} {H : Heap} {locs : List Loc} {lsC : Array Slot} {i t u b1 : Nat} {st0 vs : List am_V} {r : Option am_V} {h1 : am_H} (F : so_F p R s m args c k d mc ms L G cA ad0 A xs) (KK : so_K p l e R s m args below meth c k mc ms L G cA ad0 h0 A xs Z K) (I : so_I s mc ms L G cA ad0 h0 A xs b cells slots h ad H locs) (Lo : so_L k ad h lsC ls (st0)) (hd : decode (am_by k) pc = .ok (.invokestatic i, 3)) (hp : am_pop u st0 [] = some (vs, st)) (hl : Cond.methodLink (am_on (am_ow k)) i (am_y t) ∈ lw_tbl) (hm : am_mok t = true) (hcw : Cond.code (am_y t) (am_by t) (am_ml t) (am_rt t) ∈ lw_tbl) (hw : am_wd st ≤ 8) (hC : so_C l d t (vs) h r h1) (hbb : am_ab t + b1 ≤ b) (hK1 : K b1 (pc + 3) ls (r.toList ++ st) h1) (hu : u = am_np t) (hsc : am_sc t = true) : W p l e R s m args below meth c H locs cells slots Z (F0 m pc lsC ((st0).map (sv ad))) := by
  obtain ⟨⟨hx, hb, hml, hown, hts⟩, ⟨hK, hA, hfx⟩, hRf, hRl, hRc, hRs⟩ := F
  obtain ⟨i1, i2, ⟨hP, hD, hS⟩, i4, i5⟩ := id I
  obtain ⟨hp1, hp2⟩ := am_pop_of hp
  obtain ⟨m1, m2, m3, m4, m5, m6, m7, m8, m9⟩ := so_mok hm
  have L1 : so_L k ad h lsC ls st := so_Ld Lo (fun w q => by rw [hp1]; exact List.mem_append_right _ q)
  have hCB : CallB R s args (am_on (am_ow k)) i (am_y t) (am_by t) (am_ml t) (am_rt t) (so_ws t) (so_rm d t) (am_ab t) (4 * am_ab t) (am_np t) := callB_of (am_np t) hts (so_good hcw) rfl rfl rfl (hts _ (gw m1 rfl)) (hts _ (gw hl rfl)) ⟨m4.1, m4.2, m5⟩ ⟨by show d + 1 ≤ R.frames; omega, by show 8 + (am_ml t + 11) + 64 * d ≤ R.locals; omega⟩
  have hz : lsC.size = am_ml k := Lo.1.1.1.trans Lo.1.2.1
  have hW8 : ((st.map (sv ad)).map fun v => v.category).sum ≤ 8 := by rw [sv_wd]; exact hw
  have n1 := m2 hsc
  have hM := hC G cA ad L xs H.size i1 (fun v hv => Lo.2 v (by rw [hp1]; exact List.mem_append_left _ (List.mem_reverse.mpr hv)))
  have eN : am_ab t + b1 ≤ b := hbb
  refine so_run (va_runS (As := vs.map (sv ad)) (rest := st.map (sv ad)) (n := am_np t) ⟨hx, hb, hml, hown, hts⟩ hM ⟨hCB, hts _ (gw n1 rfl)⟩ ⟨so_blind, fun U hU hW => ⟨rfl, so_BU hP hK hD hS hA hfx (fun q hq => i2.2 q (.inr hq)) hU hW⟩⟩ rfl (by rw [List.length_map]; omega) hz (by show (st0).map (sv ad) = _; rw [hp1, List.map_append, List.map_reverse]) (lv_room hW8) hd ⟨by omega, by omega⟩) hS (so_A1 hD hS hA) (fun H1 locs1 hE hS1 => ?_)
  obtain ⟨w1, w2, w3, ad', g1, g2, g3⟩ := hE
  rw [so_stk w3 L1.2 g1]
  exact KK _ _ _ _ _ hK1 ad' H1 locs1 (cells + am_ab t) (slots + 4 * am_ab t) lsC ⟨w1, ⟨by omega, fun q hq => by rw [g1 q (by omega)]; exact i2.2 q hq⟩, ⟨g2, ⟨g3.1, fun j q hj => so_A1 hD hS hA q.1 (g3.2 j q hj)⟩, hS1⟩, by omega, by omega⟩ (so_Lr L1 w3 g1 w2)
