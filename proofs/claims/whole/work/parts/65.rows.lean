/-! fields, rows, copies -/
abbrev cdf : vw_C := ("", fun _ => ("", "", "", false), 0)
theorem u_ws_good {C : String} {T : u_T} {N : Nat} {w : Cond} (h : w ∈ u_ws C T N) : goodWord w = true := by
  unfold u_ws at h
  obtain ⟨k, -, rfl⟩ := List.mem_map.mp h
  unfold u_lay
  split <;> rfl
theorem cls_at {ci : Nat} (h : ci < 13) : am_cls[ci]? = some (am_cls.getD ci cdf) := by
  have hl : ci < am_cls.length := h
  rw [List.getD_eq_getElem?_getD, List.getElem?_eq_getElem hl]; rfl
theorem cls_ok {ci : Nat} (h : ci < 13) : (∀ w ∈ u_ws (am_cls.getD ci cdf).1 (am_cls.getD ci cdf).2.1 (am_cls.getD ci cdf).2.2, w ∈ am_gw) ∧ (∀ a, a < (am_cls.getD ci cdf).2.2 → ∀ b, b < (am_cls.getD ci cdf).2.2 → a ≠ b → ((am_cls.getD ci cdf).2.1 a).2.1 ≠ ((am_cls.getD ci cdf).2.1 b).2.1) ∧ ∃ ty0 : Nat → FieldType, ∀ k, k < (am_cls.getD ci cdf).2.2 → parseFieldDescriptor ((am_cls.getD ci cdf).2.1 k).2.2.1 = some (ty0 k) := by
  match ci, h with
  | 0, _ => exact ⟨fun w hw => gw (inX0 w hw) (u_ws_good hw), nmX0, tyX0, tyX0_ok⟩
  | 1, _ => exact ⟨fun w hw => gw (inX1 w hw) (u_ws_good hw), nmX1, tyX1, tyX1_ok⟩
  | 2, _ => exact ⟨fun w hw => gw (inX2 w hw) (u_ws_good hw), nmX2, tyX2, tyX2_ok⟩
  | 3, _ => exact ⟨fun w hw => gw (inX3 w hw) (u_ws_good hw), nmX3, tyX3, tyX3_ok⟩
  | 4, _ => exact ⟨fun w hw => gw (inX4 w hw) (u_ws_good hw), nmX4, tyX4, tyX4_ok⟩
  | 5, _ => exact ⟨fun w hw => gw (inX5 w hw) (u_ws_good hw), nmX5, tyX5, tyX5_ok⟩
  | 6, _ => exact ⟨fun w hw => gw (inX6 w hw) (u_ws_good hw), nmX6, tyX6, tyX6_ok⟩
  | 7, _ => exact ⟨fun w hw => gw (inX7 w hw) (u_ws_good hw), nmX7, tyX7, tyX7_ok⟩
  | 8, _ => exact ⟨fun w hw => gw (inX8 w hw) (u_ws_good hw), nmX8, tyX8, tyX8_ok⟩
  | 9, _ => exact ⟨fun w hw => gw (inX9 w hw) (u_ws_good hw), nmX9, tyX9, tyX9_ok⟩
  | 10, _ => exact ⟨fun w hw => gw (inX10 w hw) (u_ws_good hw), nmX10, tyX10, tyX10_ok⟩
  | 11, _ => exact ⟨fun w hw => gw (inX11 w hw) (u_ws_good hw), nmX11, tyX11, tyX11_ok⟩
  | 12, _ => exact ⟨fun w hw => gw (inX12 w hw) (u_ws_good hw), nmX12, tyX12, tyX12_ok⟩
  | ci + 13, h => omega
theorem wce_o {ad : Nat → Nat} {cA : ClassId} {h : am_H} {a ci : Nat} {fs : List (Option Nat)} (hc : am_cell a = .inr (ci, fs)) : wce ad cA h a = .inr (ci, wfs ad h a fs) := by unfold wce; rw [hc]
theorem wce_a {ad : Nat → Nat} {cA : ClassId} {h : am_H} {a n : Nat} (hc : am_cell a = .inl n) : wce ad cA h a = .inl (cA, n, .inl (wcf h a)) := by unfold wce; rw [hc]
theorem so_Lh {k : Nat} {ad : Nat → Nat} {h h' : am_H} {lsC : Array Slot} {ls : am_L} {st : List am_V} (e : am_n h ≤ am_n h') (X : so_L k ad h lsC ls st) : so_L k ad h' lsC ls st := ⟨⟨X.1.1, X.1.2.1, fun i v q => sok_up (X.1.2.2 i v q) e⟩, fun v q => sok_up (X.2 v q) e⟩
theorem am_T_eq (t : Nat) : am_T t = (am_cls.getD (t / 64) cdf).2.1 (t % 64) := rfl
theorem ct_ok (q : Nat) (j : Int) : am_ok (am_ct q j) := by
  have key : ∀ (l : List Int) (n : Nat), (∀ z ∈ l, am_ok z) → am_ok (l.getD n 0) := by
    intro l n hl
    rw [List.getD_eq_getElem?_getD]
    cases hg : l[n]? with
    | none => exact ⟨by decide, by decide⟩
    | some z => exact hl z (List.mem_of_getElem? hg)
  unfold am_ct
  by_cases h1 : q = 2001
  · rw [if_pos h1]; exact key _ _ (by decide)
  · rw [if_neg h1]
    by_cases h2 : q = 2002
    · rw [if_pos h2]; exact key _ _ (by decide)
    · rw [if_neg h2]; exact key _ _ (by decide)
theorem s_getf {p : Program} {l : Launch} {e : Env} {R : Room} {s : State} {m : MethodId} {args : Array Value} {below : List Frame} {meth : Method} {c : Code} {k d mc ms L : Nat} {G : va_G} {cA : ClassId} {ad0 : Nat → Nat} {h0 : am_H} {A : Nat → Prop} {xs : Int → Int} {Z : State → Prop} {K : Nat → Nat → am_L → List am_V → am_H → Prop} {b pc cells slots : Nat} {ls : am_L} {st : List am_V} {h : am_H} {ad : Nat → Nat} {H : Heap} {locs : List Loc} {lsC : Array Slot} {i a t : Nat} {o : Option Nat} (F : so_F p R s m args c k d mc ms L G cA ad0 A xs) (KK : so_K p l e R s m args below meth c k mc ms L G cA ad0 h0 A xs Z K) (I : so_I s mc ms L G cA ad0 h0 A xs b cells slots h ad H locs) (Lo : so_L k ad h lsC ls (.inr (.inr a) :: st)) (hd : decode (am_by k) pc = .ok (.getfield i, 3)) (hl : Cond.fieldLink (am_on (am_ow k)) i (am_T t).1 (am_T t).2.1 (am_T t).2.2.1 ∈ lw_tbl) (hf : am_fd a t = some o) (hK1 : (match o with | none => K b (pc + 3) ls (.inl (h a ((t % 64 : Nat) : Int)) :: st) h | some r => K b (pc + 3) ls (.inr (.inr r) :: st) h)) : W p l e R s m args below meth c H locs cells slots Z (F0 m pc lsC ((.inr (.inr a) :: st).map (sv ad))) := by
  obtain ⟨⟨hx, hb, hml, hown, hts⟩, ⟨hK, hA, hfx⟩, hRf, hRl, hRc, hRs⟩ := F
  obtain ⟨i1, i2, ⟨hP, hD, hS⟩, i4, i5⟩ := id I
  obtain ⟨fs, hc, hq⟩ := am_fd_ok hf
  have ob := am_cell_obj hc
  have n8 := am_n_80 h
  have hq1 := (List.getElem?_eq_some_iff.mp hq).1
  rw [am_T_eq] at hl
  refine va_get hx hb hts (cls_ok ob.2.1).1 hown hK hP a (by rw [ww_at (by omega), wce_o hc]) (cls_at ob.2.1) (t % 64) (by rw [← ob.2.2.1]; exact hq1) (hts _ (gw hl rfl)) (fun _ z => z) (v := wfv ad h a (t % 64) o) (by unfold wfs; rw [List.getElem?_mapIdx, hq]; rfl) hd ?_
  cases o with
  | none => exact KK _ _ _ _ _ hK1 ad H locs cells slots lsC I (so_Lp Lo (i1.1 _ _) mem1)
  | some r => exact KK _ _ _ _ _ hK1 ad H locs cells slots lsC I (so_Lp Lo (.inl (by have := ob.2.2.2.2 _ _ hq; omega)) mem1)
theorem s_putf {p : Program} {l : Launch} {e : Env} {R : Room} {s : State} {m : MethodId} {args : Array Value} {below : List Frame} {meth : Method} {c : Code} {k d mc ms L : Nat} {G : va_G} {cA : ClassId} {ad0 : Nat → Nat} {h0 : am_H} {A : Nat → Prop} {xs : Int → Int} {Z : State → Prop} {K : Nat → Nat → am_L → List am_V → am_H → Prop} {b pc cells slots : Nat} {ls : am_L} {st : List am_V} {h : am_H} {ad : Nat → Nat} {H : Heap} {locs : List Loc} {lsC : Array Slot} {i a t : Nat} {v : Int} (F : so_F p R s m args c k d mc ms L G cA ad0 A xs) (KK : so_K p l e R s m args below meth c k mc ms L G cA ad0 h0 A xs Z K) (I : so_I s mc ms L G cA ad0 h0 A xs b cells slots h ad H locs) (Lo : so_L k ad h lsC ls (.inl v :: .inr (.inr a) :: st)) (hd : decode (am_by k) pc = .ok (.putfield i, 3)) (hl : Cond.fieldLink (am_on (am_ow k)) i (am_T t).1 (am_T t).2.1 (am_T t).2.2.1 ∈ lw_tbl) (hf : am_fd a t = some none) (hK1 : K b (pc + 3) ls st (am_up h a ((t % 64 : Nat) : Int) v)) : W p l e R s m args below meth c H locs cells slots Z (F0 m pc lsC ((.inl v :: .inr (.inr a) :: st).map (sv ad))) := by
  obtain ⟨⟨hx, hb, hml, hown, hts⟩, ⟨hK, hA, hfx⟩, hRf, hRl, hRc, hRs⟩ := F
  obtain ⟨i1, i2, ⟨hP, hD, hS⟩, i4, i5⟩ := id I
  obtain ⟨fs, hc, hq⟩ := am_fd_ok hf
  have ob := am_cell_obj hc
  have n8 := am_n_80 h
  have hq1 := (List.getElem?_eq_some_iff.mp hq).1
  have ov : am_ok v := so_h0 Lo
  rw [am_T_eq] at hl
  obtain ⟨ty0, hty⟩ := (cls_ok ob.2.1).2.2
  have hI := ob.2.2.2.1 _ hq
  refine va_put hx hb hts (cls_ok ob.2.1).1 ty0 hty (cls_ok ob.2.1).2.1 hown hK hP hD hS a (fs := wfs ad h a fs) (by rw [ww_at (by omega), wce_o hc]) (cls_at ob.2.1) (t % 64) (by rw [← ob.2.2.1]; exact hq1) (hts _ (gw hl rfl)) (fun _ z => z) hI.2 (ty := .int) (by rw [hI.1]; decide +kernel) (vp_nar_int _) rfl (by unfold wfs; rw [List.length_mapIdx]; exact hq1) hd (fun H1 locs1 hP1 hD1 hS1 => ?_)
  rw [show sv ad (.inl v) = Value.int (Int32.ofInt v) from rfl, ww_put hc hq] at hP1 hD1
  have en : am_n (am_up h a ((t % 64 : Nat) : Int) v) = am_n h := am_n_up (by omega)
  exact KK _ _ _ _ _ hK1 ad H1 locs1 cells slots lsC ⟨hwf_up i1 (by omega) ov, by rw [en]; exact i2, ⟨hP1, hD1, hS1⟩, i4, i5⟩ (so_Lh (by omega) (so_Ld Lo mem2))
theorem s_gets {p : Program} {l : Launch} {e : Env} {R : Room} {s : State} {m : MethodId} {args : Array Value} {below : List Frame} {meth : Method} {c : Code} {k d mc ms L : Nat} {G : va_G} {cA : ClassId} {ad0 : Nat → Nat} {h0 : am_H} {A : Nat → Prop} {xs : Int → Int} {Z : State → Prop} {K : Nat → Nat → am_L → List am_V → am_H → Prop} {b pc cells slots : Nat} {ls : am_L} {st : List am_V} {h : am_H} {ad : Nat → Nat} {H : Heap} {locs : List Loc} {lsC : Array Slot} {i t : Nat} (F : so_F p R s m args c k d mc ms L G cA ad0 A xs) (KK : so_K p l e R s m args below meth c k mc ms L G cA ad0 h0 A xs Z K) (I : so_I s mc ms L G cA ad0 h0 A xs b cells slots h ad H locs) (Lo : so_L k ad h lsC ls (st)) (hd : decode (am_by k) pc = .ok (.getstatic i, 3)) (ht : 2001 ≤ t ∧ t < 2004) (hl : Cond.fieldLink (am_on (am_ow k)) i (am_stn t).1 (am_stn t).2 "[I" ∈ lw_tbl) (hK1 : K b (pc + 3) ls (.inr (.inr t) :: st) h) : W p l e R s m args below meth c H locs cells slots Z (F0 m pc lsC ((st).map (sv ad))) := by
  obtain ⟨⟨hx, hb, hml, hown, hts⟩, ⟨hK, hA, hfx⟩, hRf, hRl, hRc, hRs⟩ := F
  obtain ⟨i1, i2, ⟨hP, hD, hS⟩, i4, i5⟩ := id I
  have q := KK _ _ _ _ _ hK1 ad H locs cells slots lsC I (so_Lp Lo (.inr (by omega)) (fun _ q => q))
  have e : ad t = ad0 t := i2.2 t (.inr (by omega))
  rw [List.map_cons, show sv ad (.inr (.inr t)) = Value.ref (ad0 t) from congrArg Value.ref e] at q
  obtain ⟨-, f1, f2, f3⟩ := hfx
  rcases (show t = 2001 ∨ t = 2002 ∨ t = 2003 by omega) with z | z | z
  · subst z; exact va_gets hx hb f1.1 hS hown (hts _ (gw hl rfl)) (fun _ w => w) hd q
  · subst z; exact va_gets hx hb f2.1 hS hown (hts _ (gw hl rfl)) (fun _ w => w) hd q
  · subst z; exact va_gets hx hb f3.1 hS hown (hts _ (gw hl rfl)) (fun _ w => w) hd q
theorem s_iald {p : Program} {l : Launch} {e : Env} {R : Room} {s : State} {m : MethodId} {args : Array Value} {below : List Frame} {meth : Method} {c : Code} {k d mc ms L : Nat} {G : va_G} {cA : ClassId} {ad0 : Nat → Nat} {h0 : am_H} {A : Nat → Prop} {xs : Int → Int} {Z : State → Prop} {K : Nat → Nat → am_L → List am_V → am_H → Prop} {b pc cells slots : Nat} {ls : am_L} {st : List am_V} {h : am_H} {ad : Nat → Nat} {H : Heap} {locs : List Loc} {lsC : Array Slot} {a n : Nat} {i : Int} (F : so_F p R s m args c k d mc ms L G cA ad0 A xs) (KK : so_K p l e R s m args below meth c k mc ms L G cA ad0 h0 A xs Z K) (I : so_I s mc ms L G cA ad0 h0 A xs b cells slots h ad H locs) (Lo : so_L k ad h lsC ls (.inl i :: .inr (.inr a) :: st)) (hd : decode (am_by k) pc = .ok (.iaload, 1)) (ha : am_al h a = some n) (hi : 0 ≤ i ∧ i < (n : Int)) (hK1 : K b (pc + 1) ls (.inl (am_ag h a i) :: st) h) : W p l e R s m args below meth c H locs cells slots Z (F0 m pc lsC ((.inl i :: .inr (.inr a) :: st).map (sv ad))) := by
  obtain ⟨⟨hx, hb, hml, hown, hts⟩, ⟨hK, hA, hfx⟩, hRf, hRl, hRc, hRs⟩ := F
  obtain ⟨i1, i2, ⟨hP, hD, hS⟩, i4, i5⟩ := id I
  have oi : am_ok i := so_h0 Lo
  have hin := sI_in oi hi.1 hi.2
  have ecl := sI_cl hi.1 oi
  have ei : ((Int32.ofInt i).toNatClampNeg : Int) = i := by rw [ecl]; omega
  have og : am_ok (am_ag h a i) := by
    unfold am_ag
    by_cases z : 2000 < a
    · rw [if_pos z]; exact ct_ok _ _
    · rw [if_neg z]; exact i1.1 _ _
  have q := KK _ _ _ _ _ hK1 ad H locs cells slots lsC I (so_Lp Lo og mem2)
  rw [List.map_cons, show sv ad (.inl (am_ag h a i)) = Value.int (Int32.ofInt (am_ag h a i)) from rfl] at q
  by_cases lo : a < 1000
  · obtain ⟨hc, hn⟩ := al_lo ha lo
    refine va_iald hx hb hK hP a 0 (by rw [ww_at hn, wce_a hc]) rfl hin hd ?_
    have e : wcf h a (Int32.ofInt i).toNatClampNeg = Int32.ofInt (am_ag h a i) := by
      unfold wcf am_ag; rw [ei, if_neg (by omega)]
    rw [e]; exact q
  · obtain ⟨⟨x1, x2, x3⟩, f1, f2, f3⟩ := hfx
    have e : ad a = ad0 a := i2.2 a (.inr (by rcases al_hi ha lo with w | w | w <;> omega))
    rw [List.map_cons, List.map_cons, show sv ad (.inr (.inr a)) = Value.ref (ad0 a) from congrArg Value.ref e]
    rcases al_hi ha lo with ⟨w, wn⟩ | ⟨w, wn⟩ | ⟨w, wn⟩
    · subst w
      rw [wn, i1.2.2.1] at hin
      refine va_sld hx hb x1 x2 x3 hS hin hd ?_
      have e2 : Int32.ofInt (xs ((Int32.ofInt i).toNatClampNeg : Int)) = Int32.ofInt (am_ag h 2000 i) := by
        unfold am_ag; rw [ei, if_neg (by omega), i1.2.2.2]
      rw [e2]; exact q
    · subst w; subst wn
      exact va_ti hx hb f1.2 hS hin (v := .int (Int32.ofInt (am_ag h 2001 i))) (by show Value.int (Int32.ofInt (am_ct 2001 ((Int32.ofInt i).toNatClampNeg : Int))) = _; unfold am_ag; rw [ei, if_pos (by omega)]) hd q
    · subst wn
      rcases w with w | w
      · subst w
        exact va_ti hx hb f2.2 hS hin (v := .int (Int32.ofInt (am_ag h 2002 i))) (by show Value.int (Int32.ofInt (am_ct 2002 ((Int32.ofInt i).toNatClampNeg : Int))) = _; unfold am_ag; rw [ei, if_pos (by omega)]) hd q
      · subst w
        exact va_ti hx hb f3.2 hS hin (v := .int (Int32.ofInt (am_ag h 2003 i))) (by show Value.int (Int32.ofInt (am_ct 2003 ((Int32.ofInt i).toNatClampNeg : Int))) = _; unfold am_ag; rw [ei, if_pos (by omega)]) hd q
theorem s_iast {p : Program} {l : Launch} {e : Env} {R : Room} {s : State} {m : MethodId} {args : Array Value} {below : List Frame} {meth : Method} {c : Code} {k d mc ms L : Nat} {G : va_G} {cA : ClassId} {ad0 : Nat → Nat} {h0 : am_H} {A : Nat → Prop} {xs : Int → Int} {Z : State → Prop} {K : Nat → Nat → am_L → List am_V → am_H → Prop} {b pc cells slots : Nat} {ls : am_L} {st : List am_V} {h : am_H} {ad : Nat → Nat} {H : Heap} {locs : List Loc} {lsC : Array Slot} {a n : Nat} {i v : Int} (F : so_F p R s m args c k d mc ms L G cA ad0 A xs) (KK : so_K p l e R s m args below meth c k mc ms L G cA ad0 h0 A xs Z K) (I : so_I s mc ms L G cA ad0 h0 A xs b cells slots h ad H locs) (Lo : so_L k ad h lsC ls (.inl v :: .inl i :: .inr (.inr a) :: st)) (hd : decode (am_by k) pc = .ok (.iastore, 1)) (ha : am_al h a = some n) (lo : a < 1000) (hi : 0 ≤ i ∧ i < (n : Int)) (hK1 : K b (pc + 1) ls st (am_up h a i v)) : W p l e R s m args below meth c H locs cells slots Z (F0 m pc lsC ((.inl v :: .inl i :: .inr (.inr a) :: st).map (sv ad))) := by
  obtain ⟨⟨hx, hb, hml, hown, hts⟩, ⟨hK, hA, hfx⟩, hRf, hRl, hRc, hRs⟩ := F
  obtain ⟨i1, i2, ⟨hP, hD, hS⟩, i4, i5⟩ := id I
  have ov : am_ok v := so_h0 Lo
  have oi : am_ok i := so_h1 Lo
  obtain ⟨hc, hn⟩ := al_lo ha lo
  refine va_iast hx hb hK hP hD hS a 0 (by rw [ww_at hn, wce_a hc]) rfl (sI_in oi hi.1 hi.2) hd (fun H1 locs1 hP1 hD1 hS1 => ?_)
  rw [ww_ast hc hn lo hi.1 oi] at hP1 hD1
  have en : am_n (am_up h a i v) = am_n h := am_n_up lo
  exact KK _ _ _ _ _ hK1 ad H1 locs1 cells slots lsC ⟨hwf_up i1 lo ov, by rw [en]; exact i2, ⟨hP1, hD1, hS1⟩, i4, i5⟩ (so_Lh (by omega) (so_Ld Lo mem3))
theorem s_alen {p : Program} {l : Launch} {e : Env} {R : Room} {s : State} {m : MethodId} {args : Array Value} {below : List Frame} {meth : Method} {c : Code} {k d mc ms L : Nat} {G : va_G} {cA : ClassId} {ad0 : Nat → Nat} {h0 : am_H} {A : Nat → Prop} {xs : Int → Int} {Z : State → Prop} {K : Nat → Nat → am_L → List am_V → am_H → Prop} {b pc cells slots : Nat} {ls : am_L} {st : List am_V} {h : am_H} {ad : Nat → Nat} {H : Heap} {locs : List Loc} {lsC : Array Slot} {a n : Nat} (F : so_F p R s m args c k d mc ms L G cA ad0 A xs) (KK : so_K p l e R s m args below meth c k mc ms L G cA ad0 h0 A xs Z K) (I : so_I s mc ms L G cA ad0 h0 A xs b cells slots h ad H locs) (Lo : so_L k ad h lsC ls (.inr (.inr a) :: st)) (hd : decode (am_by k) pc = .ok (.arraylength, 1)) (ha : am_al h a = some n) (hK1 : K b (pc + 1) ls (.inl (n : Int) :: st) h) : W p l e R s m args below meth c H locs cells slots Z (F0 m pc lsC ((.inr (.inr a) :: st).map (sv ad))) := by
  obtain ⟨⟨hx, hb, hml, hown, hts⟩, ⟨hK, hA, hfx⟩, hRf, hRl, hRc, hRs⟩ := F
  obtain ⟨i1, i2, ⟨hP, hD, hS⟩, i4, i5⟩ := id I
  have hn0 : Int32.ofNat n = Int32.ofInt (n : Int) := Int32.ofInt_eq_ofNat.symm
  by_cases lo : a < 1000
  · obtain ⟨hc, hn⟩ := al_lo ha lo
    have := am_cell_len hc
    exact va_alen hx hb hK hP a 0 (by rw [ww_at hn, wce_a hc]) rfl (v := Int32.ofInt (n : Int)) hn0 hd (KK _ _ _ _ _ hK1 ad H locs cells slots lsC I (so_Lp Lo (show am_ok (n : Int) by constructor <;> omega) mem1))
  · obtain ⟨⟨x1, x2, x3⟩, f1, f2, f3⟩ := hfx
    have e : ad a = ad0 a := i2.2 a (.inr (by rcases al_hi ha lo with w | w | w <;> omega))
    rw [List.map_cons, show sv ad (.inr (.inr a)) = Value.ref (ad0 a) from congrArg Value.ref e]
    have on : am_ok (n : Int) := by
      have := (i1.1 1000 1).2
      rcases al_hi ha lo with w | w | w <;> constructor <;> omega
    have q := KK _ _ _ _ _ hK1 ad H locs cells slots lsC I (so_Lp Lo on mem1)
    rw [List.map_cons, show sv ad (.inl (n : Int)) = Value.int (Int32.ofInt (n : Int)) from rfl] at q
    rcases al_hi ha lo with ⟨w, wn⟩ | ⟨w, wn⟩ | ⟨w, wn⟩
    · subst w
      rw [i1.2.2.1] at wn; subst wn
      refine va_slen hx hb x1 x2 x3 hS hd ?_
      rw [hn0]; exact q
    · subst w; subst wn; exact va_tlen hx hb f1.2 hS hn0 hd q
    · subst wn
      rcases w with w | w
      · subst w; exact va_tlen hx hb f2.2 hS hn0 hd q
      · subst w; exact va_tlen hx hb f3.2 hS hn0 hd q
theorem s_newa {p : Program} {l : Launch} {e : Env} {R : Room} {s : State} {m : MethodId} {args : Array Value} {below : List Frame} {meth : Method} {c : Code} {k d mc ms L : Nat} {G : va_G} {cA : ClassId} {ad0 : Nat → Nat} {h0 : am_H} {A : Nat → Prop} {xs : Int → Int} {Z : State → Prop} {K : Nat → Nat → am_L → List am_V → am_H → Prop} {b pc cells slots : Nat} {ls : am_L} {st : List am_V} {h : am_H} {ad : Nat → Nat} {H : Heap} {locs : List Loc} {lsC : Array Slot} {n : Int} {b1 : Nat} (F : so_F p R s m args c k d mc ms L G cA ad0 A xs) (KK : so_K p l e R s m args below meth c k mc ms L G cA ad0 h0 A xs Z K) (I : so_I s mc ms L G cA ad0 h0 A xs b cells slots h ad H locs) (Lo : so_L k ad h lsC ls (.inl n :: st)) (hd : decode (am_by k) pc = .ok (.newarray .int, 2)) (hAC : Cond.arrayClass .int ∈ lw_tbl) (hb1 : b = b1 + 1) (hn : n = 4) (h8 : h 1000 0 < 800) (hK1 : K b1 (pc + 2) ls (.inr (.inr (am_n h)) :: st) (am_nw h)) : W p l e R s m args below meth c H locs cells slots Z (F0 m pc lsC ((.inl n :: st).map (sv ad))) := by
  obtain ⟨⟨hx, hb, hml, hown, hts⟩, ⟨hK, hA, hfx⟩, hRf, hRl, hRc, hRs⟩ := F
  obtain ⟨i1, i2, ⟨hP, hD, hS⟩, i4, i5⟩ := id I
  subst hn
  have c4 : (Int32.ofInt 4).toNatClampNeg = 4 := by decide +kernel
  refine va_newa (a0 := (4, .inl (fun _ => 0))) hx hb (atype := .int) (hts _ (gw hAC rfl)) (ty := .int) rfl hK hP hD hS hA (fun cA => rfl) (by decide +kernel) c4 (by decide +kernel) (by omega) (by omega) hd (fun q cA2 H1 hK2 hP1 hD1 hS1 => ?_)
  have eA : cA2 = cA := by
    have g1 : s.vm.findClass ("[" ++ FieldType.int.toString) = some cA := (hK.2 0 _ rfl).2
    have g2 : s.vm.findClass ("[" ++ FieldType.int.toString) = some cA2 := (hK2.2 1 _ rfl).2
    rw [g1] at g2; exact (Option.some.inj g2).symm
  subst eA
  rw [ww_nw i1.2.1.1 h8] at hP1 hD1
  have en := am_n_nw (h := h) i1.2.1.1
  have nn : am_n h < 1000 := by unfold am_n; omega
  have ag : ∀ x, x < am_n h ∨ 2000 ≤ x → (fun j => if j = am_n h then q else ad j) x = ad x := fun x hx => by
    show (if x = am_n h then q else ad x) = ad x
    rw [if_neg (by omega)]
  have L1 := so_Ld (st := st) Lo mem1
  have es : st.map (sv ad) = st.map (sv (fun j => if j = am_n h then q else ad j)) := (sv_map L1.2 ag).symm
  rw [es]
  have ev : Value.ref q = sv (fun j => if j = am_n h then q else ad j) (.inr (.inr (am_n h))) := by
    show Value.ref q = Value.ref (if am_n h = am_n h then q else ad (am_n h))
    rw [if_pos rfl]
  rw [ev]
  exact KK _ _ _ _ _ hK1 _ H1 locs (cells + 1) (slots + 4) lsC ⟨hwf_nw i1 h8, ⟨by omega, fun x hx => by rw [ag x (by omega)]; exact i2.2 x hx⟩, ⟨hP1, hD1, hS1⟩, by omega, by omega⟩ ⟨⟨slr_cg L1.1.2.2 ag L1.1.1, L1.1.2.1, fun i v z => sok_up (L1.1.2.2 i v z) (by omega)⟩, fun v hv => by
    rcases List.mem_cons.mp hv with z | z
    · rw [z]; exact .inl (by omega)
    · exact sok_up (L1.2 v z) (by omega)⟩
theorem s_copy {p : Program} {l : Launch} {e : Env} {R : Room} {s : State} {m : MethodId} {args : Array Value} {below : List Frame} {meth : Method} {c : Code} {k d mc ms L : Nat} {G : va_G} {cA : ClassId} {ad0 : Nat → Nat} {h0 : am_H} {A : Nat → Prop} {xs : Int → Int} {Z : State → Prop} {K : Nat → Nat → am_L → List am_V → am_H → Prop} {b pc cells slots : Nat} {ls : am_L} {st : List am_V} {h : am_H} {ad : Nat → Nat} {H : Heap} {locs : List Loc} {lsC : Array Slot} {i a a2 na nb : Nat} {n dp sp : Int} (F : so_F p R s m args c k d mc ms L G cA ad0 A xs) (KK : so_K p l e R s m args below meth c k mc ms L G cA ad0 h0 A xs Z K) (I : so_I s mc ms L G cA ad0 h0 A xs b cells slots h ad H locs) (Lo : so_L k ad h lsC ls (.inl n :: .inl dp :: .inr (.inr a2) :: .inl sp :: .inr (.inr a) :: st)) (hd : decode (am_by k) pc = .ok (.invokestatic i, 3)) (hcw : Cond.native arraycopyName ∈ lw_tbl ∧ Cond.static arraycopyName ∈ lw_tbl ∧ Cond.initialized "java/lang/System" ∈ lw_tbl) (hl : Cond.methodLink (am_on (am_ow k)) i arraycopyName ∈ lw_tbl) (ha : am_al h a = some na) (ha2 : am_al h a2 = some nb) (lo : a < 1000 ∧ a2 < 1000) (hw : am_wd st ≤ 8) (hr : 0 ≤ sp ∧ 0 ≤ dp ∧ 0 ≤ n ∧ sp + n ≤ (na : Int) ∧ dp + n ≤ (nb : Int)) (hK1 : K b (pc + 3) ls st (am_cp h a sp a2 dp n)) : W p l e R s m args below meth c H locs cells slots Z (F0 m pc lsC ((.inl n :: .inl dp :: .inr (.inr a2) :: .inl sp :: .inr (.inr a) :: st).map (sv ad))) := by
  obtain ⟨⟨hx, hb, hml, hown, hts⟩, ⟨hK, hA, hfx⟩, hRf, hRl, hRc, hRs⟩ := F
  obtain ⟨i1, i2, ⟨hP, hD, hS⟩, i4, i5⟩ := id I
  have o0 : am_ok n := so_h0 Lo
  have o1 : am_ok dp := so_h1 Lo
  have o2 : am_ok sp := Lo.2 (.inl sp) (by simp)
  obtain ⟨hc, hn⟩ := al_lo ha lo.1
  obtain ⟨hc2, hn2⟩ := al_lo ha2 lo.2
  have z0 : am_ok 0 := ⟨by decide, by decide⟩
  have ng : ∀ x : Int, am_ok x → 0 ≤ x → ¬ Int32.ofInt x < 0 := fun x ox hx z => by
    have := (sI_lt ox z0).mp z
    omega
  obtain ⟨w1, w2, w3⟩ := hcw
  refine va_copyi hx hb (by rw [hml, Lo.1.1.1]; exact Lo.1.2.1.symm) hown (hts _ (gw hl rfl)) (hts _ (gw w1 rfl)) (hts _ (gw w2 rfl)) (hts _ (gw w3 rfl)) hK hP hD hS a a2 0 0 (by rw [ww_at hn, wce_a hc]) (by rw [ww_at hn2, wce_a hc2]) rfl rfl rfl (ng sp o2 hr.1) (ng dp o1 hr.2.1) (ng n o0 hr.2.2.1) (by rw [sI_cl hr.1 o2, sI_cl hr.2.2.1 o0]; omega) (by rw [sI_cl hr.2.1 o1, sI_cl hr.2.2.1 o0]; omega) (fun _ _ => rfl) (by omega) ?_ hd (fun H1 locs1 hP1 hD1 hS1 => ?_)
  · have e1 : nativeFrameWords "java/lang/System" "arraycopy" 5 = 7 := by decide +kernel
    have e2 : ((List.map (sv ad) st).map fun v => v.category).sum = am_wd st := sv_wd ad st
    omega
  · rw [ww_cpy hc2 hn2 lo.2 hr.1 hr.2.1 hr.2.2.1 o2 o1 o0] at hP1 hD1
    have en : am_n (am_cp h a sp a2 dp n) = am_n h := am_n_cp lo.2
    exact KK _ _ _ _ _ hK1 ad H1 locs1 cells slots lsC ⟨hwf_cp i1 lo.2, by rw [en]; exact i2, ⟨hP1, hD1, hS1⟩, i4, i5⟩ (so_Lh (by omega) (so_Ld Lo (fun w q => by simp [q])))
