/-! the walk of a method, its contract -/
theorem lookup_mem : ∀ {l : List (Nat × am_E)} {pc : Nat} {e : am_E}, l.lookup pc = some e → (pc, e) ∈ l
  | [], pc, e, h => by cases h
  | (k, b) :: es, pc, e, h => by
    rw [List.lookup_cons] at h
    by_cases z : pc = k
    · subst z
      rw [beq_self_eq_true] at h
      cases h
      exact List.mem_cons_self
    · have z2 : (pc == k) = false := by simpa using z
      rw [z2] at h
      exact List.mem_cons_of_mem _ (lookup_mem h)
theorem so_ent {k pc nx t u : Nat} {x : Int} {i : Instr} (SS : so_stat) (hk : k < 232) (h : am_look k pc = some (i, nx, t, u, x)) : ∃ ln, decode (am_by k) pc = .ok (i, ln) ∧ pc + ln = nx ∧ am_sk k pc nx t u x i = true := by
  have hc := SS.1 k hk
  unfold am_chk at hc
  have := List.all_eq_true.mp hc _ (lookup_mem h)
  unfold am_sb at this
  rw [Bool.and_eq_true] at this
  obtain ⟨a1, a2⟩ := this
  dsimp only at a1 a2
  split at a1
  · rename_i j ln hd
    simp only [Bool.and_eq_true, decide_eq_true_eq] at a1
    exact ⟨ln, by rw [hd, a1.1], a1.2, a2⟩
  · cases a1
theorem so_walk {p : Program} {l : Launch} {e : Env} {R : Room} {s : State} {m : MethodId} {args : Array Value} {below : List Frame} {meth : Method} {c : Code} {k d mc ms L : Nat} {G : va_G} {cA : ClassId} {ad0 : Nat → Nat} {h0 : am_H} {A : Nat → Prop} {xs : Int → Int} {Z : State → Prop} {Q : am_Q} (SS : so_stat) (hk : k < 232) (F : so_F p R s m args c k d mc ms L G cA ad0 A xs) (ZZ : so_Z p l e R s m args below meth c k mc ms L G cA ad0 h0 A xs Z Q) (IH : so_IH l d) : ∀ n, so_K p l e R s m args below meth c k mc ms L G cA ad0 h0 A xs Z (am_w (am_cd d) k Q n) := by
  intro n
  induction n with
  | zero => intro b pc ls st h H1; exact False.elim H1
  | succ n ih =>
    intro b pc ls st h H1 ad H locs cells slots lsC I Lo
    unfold am_w at H1
    cases hl : am_look k pc with
    | none => rw [hl] at H1; exact False.elim H1
    | some en =>
      obtain ⟨i, nx, t, u, x⟩ := en
      rw [hl] at H1
      obtain ⟨ln, e1, e2, e3⟩ := so_ent SS hk hl
      exact so_step SS hk F ih ZZ IH I Lo e1 e2 e3 H1
theorem am_en_len {ad : Nat → Nat} : ∀ vs : List am_V, (lg_sl (vs.map (sv ad))).length = (am_en vs).length
  | [] => rfl
  | v :: vs => by
    have ih := am_en_len (ad := ad) vs
    unfold lg_sl at ih ⊢
    rw [List.map_cons, List.flatMap_cons, List.length_append, ih]
    rcases v with z | y | q
    · show 1 + _ = (am_en vs).length + 1; omega
    · show 2 + _ = (am_en vs).length + 1 + 1; omega
    · show 1 + _ = (am_en vs).length + 1; omega
theorem am_en_args {ad : Nat → Nat} : ∀ (vs : List am_V) (i0 i : Nat) (v : am_V), am_g (am_en vs) i = some v → (i0 + i, sv ad v) ∈ lv_args i0 (vs.map (sv ad)) ∧ v ∈ vs
  | [], i0, i, v, h => by cases h
  | w :: vs, i0, i, v, h => by
    have one : ∀ (w : am_V), am_en (w :: vs) = some w :: am_en vs → (sv ad w).category ≠ 2 → am_g (am_en (w :: vs)) i = some v → (i0 + i, sv ad v) ∈ lv_args i0 ((w :: vs).map (sv ad)) ∧ v ∈ w :: vs := by
      intro w e hc h
      rw [e] at h
      rw [List.map_cons]
      unfold lv_args
      rw [if_neg hc]
      cases i with
      | zero => cases h; exact ⟨List.mem_cons_self, List.mem_cons_self⟩
      | succ i =>
        obtain ⟨a1, a2⟩ := am_en_args (ad := ad) vs (i0 + 1) i v h
        exact ⟨List.mem_cons_of_mem _ (by rw [show i0 + (i + 1) = i0 + 1 + i by omega]; exact a1), List.mem_cons_of_mem _ a2⟩
    rcases w with z | y | q
    · exact one _ rfl (fun z => by cases z) h
    · rw [List.map_cons]
      unfold lv_args
      rw [if_pos (show (sv ad (.inr (.inl y))).category = 2 from rfl)]
      have h : am_g (some (.inr (.inl y)) :: none :: am_en vs) i = some v := h
      match i, h with
      | 0, h => cases h; exact ⟨List.mem_cons_self, List.mem_cons_self⟩
      | 1, h => cases h
      | i + 2, h =>
        obtain ⟨a1, a2⟩ := am_en_args (ad := ad) vs (i0 + 2) i v h
        exact ⟨List.mem_cons_of_mem _ (by rw [show i0 + (i + 2) = i0 + 2 + i by omega]; exact a1), List.mem_cons_of_mem _ a2⟩
    · exact one _ rfl (fun z => by cases z) h
theorem am_g_rep : ∀ (n i : Nat) (v : am_V), am_g (List.replicate n none) i ≠ some v
  | 0, i, v, h => by cases h
  | n + 1, 0, v, h => by cases h
  | n + 1, i + 1, v, h => am_g_rep n i v h
theorem am_g_app : ∀ (l : am_L) (n i : Nat) (v : am_V), am_g (l ++ List.replicate n none) i = some v → am_g l i = some v
  | [], n, i, v, h => absurd h (am_g_rep n i v)
  | o :: l, n, 0, v, h => h
  | o :: l, n, i + 1, v, h => am_g_app l n i v h
theorem so_entry {k : Nat} {ad : Nat → Nat} {h : am_H} {vs : List am_V} (hl : (am_en vs).length ≤ am_ml k) (hv : ∀ v ∈ vs, sok h v) : so_L k ad h ((lg_sl (vs.map (sv ad)) ++ List.replicate (am_ml k - (lg_sl (vs.map (sv ad))).length) Slot.unset).toArray) (am_ent (am_ml k) vs) [] := by
  have hlen : (am_ent (am_ml k) vs).length = am_ml k := by unfold am_ent; rw [List.length_append, List.length_replicate]; omega
  have hL := lv_entry (vs.map (sv ad)) (n := am_ml k) (by rw [am_en_len]; exact hl)
  have key : ∀ i v, am_g (am_ent (am_ml k) vs) i = some v → (i, sv ad v) ∈ lv_args 0 (vs.map (sv ad)) ∧ v ∈ vs := fun i v z => by
    have := am_en_args (ad := ad) vs 0 i v (am_g_app _ _ _ _ z)
    rwa [Nat.zero_add] at this
  refine ⟨⟨⟨by rw [hlen]; exact hL.1, hL.2.1, fun q hq => ?_⟩, hlen, fun i v z => hv v (key i v z).2⟩, fun v hv => by cases hv⟩
  obtain ⟨v, z1, z2⟩ := spl_mem.mp hq
  have := hL.2.2 _ (key q.1 v z1).1
  rw [z2]; exact this
theorem so_met (SS : so_stat) (l : Launch) : ∀ d, so_IH l d := by
  intro d
  induction d with
  | zero => intro j vs h r h' _ _ _ H; exact False.elim H
  | succ d ih =>
    intro k vs h r h' hk n87 n88 hcd G cA ad L xs sz hwfh hvs
    obtain ⟨⟨q1, q2⟩, n, q3⟩ := hcd
    obtain ⟨m1, m2, m3, m4, m5, m6, m7, m8, m9⟩ := so_mok (SS.2.1 k hk)
    have hplain : plainName (am_y k).cls = true := by
      rcases m6 with z | z | z
      · exact z
      · exact absurd z n87
      · exact absurd z n88
    refine Met.ofW (cc := am_by k) (maxL := am_ml k) (ret := am_rt k) hplain rfl ?_
    intro p e s m args below meth c s₁ B hml hv
    obtain ⟨rfl, hsz, hP, hK, hD0, hfx⟩ := hv
    have hts0 := atoms_spec (ws := so_ws k) B.pre
    have hown : s.vm.findClass (am_on (am_ow k)) = some m.cls := by rw [← m7]; exact findClass_of_methodNamed B.named
    have hlocks := B.notSynchronized
    subst hsz
    have hD := hD0.self (sz := s.heap.size)
    have F : so_F p (headSpec (so_ws k) (so_rm (d + 1) k)).room s m (vs.map (sv ad)).toArray c k d (am_ab k) (4 * am_ab k) L G cA ad (va_A (ww ad cA h) s.heap.size) xs := ⟨⟨B.exec, B.bytes, hml, hown, fun w hw => hts0 w (List.mem_cons_of_mem _ hw)⟩, ⟨hK, fun q z => Or.inr z, hfx⟩, Nat.le_refl _, Nat.le_refl _, Nat.le_refl _, Nat.le_refl _⟩
    rw [lg_entry_eq]
    refine so_walk (Q := fun r1 h1 => r1 = r ∧ h1 = h') SS (by omega) F ⟨?_, ?_⟩ ih n (am_ab k) 0 _ [] h q3 ad s.heap [] 0 0 _ ⟨hwfh, ⟨Nat.le_refl _, fun _ _ => rfl⟩, ⟨hP, hD, va_S.rf⟩, by omega, by omega⟩ (so_entry q1 hvs)
    · intro a h1 b pc ad1 H locs cells slots lsC hQ oa hz I hd hr
      obtain ⟨rfl, rfl⟩ := hQ
      obtain ⟨i1, i2, ⟨gP, gD, gS⟩, i4, i5⟩ := I
      refine W.widen (k := am_ab k) (n := 4 * am_ab k) (by omega) (by omega) ?_
      have hq : ∀ t : State, t.heap = H → s.WarmedH t.vm → so_Qc G cA ad h (some (.inl a)) h1 L xs (va_A (ww ad cA h) s.heap.size) (vs.map (sv ad)).toArray s (.returned (some (.int (Int32.ofInt a)))) t := fun t ht _ => ⟨⟨rfl, i1, i2.1, fun v hv => ⟨a, (Option.some.inj hv).symm, oa⟩, ad1, i2.2, by rw [ht]; exact gP, gD⟩, gS.F ht⟩
      rcases hr with hr | hr
      · exact W.iret B.exec B.bytes (B.returns.trans hr) hq gS.2.2 hd hlocks
      · refine W.zret B.exec B.bytes (B.returns.trans hr) ?_ hq gS.2.2 hd hlocks
        have hz2 : am_zb k = true := by unfold am_zb; rw [hr]; exact decide_eq_true rfl
        rcases hz hz2 with w | w
        · rw [w]; rfl
        · rw [w]; rfl
    · intro h1 b pc ad1 H locs cells slots lsC hQ I hd hr
      obtain ⟨rfl, rfl⟩ := hQ
      obtain ⟨i1, i2, ⟨gP, gD, gS⟩, i4, i5⟩ := I
      refine W.widen (k := am_ab k) (n := 4 * am_ab k) (by omega) (by omega) ?_
      exact W.vret B.exec B.bytes (B.returns.trans hr) (fun t ht _ => ⟨⟨rfl, i1, i2.1, (fun v hv => by cases hv), ad1, i2.2, by rw [ht]; exact gP, gD⟩, gS.F ht⟩) gS.2.2 hd hlocks
