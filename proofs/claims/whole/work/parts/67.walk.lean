/-! the step of any instruction, the walk of a method, its contract -/
def so_Z (p : Program) (l : Launch) (e : Env) (R : Room) (s : State) (m : MethodId) (args : Array Value) (below : List Frame) (meth : Method) (c : Code) (k mc ms L : Nat) (G : va_G) (cA : ClassId) (ad0 : Nat → Nat) (h0 : am_H) (A : Nat → Prop) (xs : Int → Int) (Z : State → Prop) (Q : am_Q) : Prop := (∀ (a : Int) (h : am_H) (b pc : Nat) (ad : Nat → Nat) (H : Heap) (locs : List Loc) (cells slots : Nat) (lsC : Array Slot), Q (some (.inl a)) h → am_ok a → (am_zb k = true → a = 0 ∨ a = 1) → so_I s mc ms L G cA ad0 h0 A xs b cells slots h ad H locs → decode (am_by k) pc = .ok (.ireturn, 1) → (am_rt k = some .int ∨ am_rt k = some .boolean) → W p l e R s m args below meth c H locs cells slots Z (F0 m pc lsC [.int (Int32.ofInt a)])) ∧ (∀ (h : am_H) (b pc : Nat) (ad : Nat → Nat) (H : Heap) (locs : List Loc) (cells slots : Nat) (lsC : Array Slot), Q none h → so_I s mc ms L G cA ad0 h0 A xs b cells slots h ad H locs → decode (am_by k) pc = .ok (.return_, 1) → am_rt k = none → W p l e R s m args below meth c H locs cells slots Z (F0 m pc lsC []))
def so_IH (l : Launch) (d : Nat) : Prop := ∀ (j : Nat) (vs : List am_V) (h : am_H) (r : Option am_V) (h' : am_H), j < 231 → j ≠ 87 → j ≠ 88 → am_cd d j vs h r h' → so_C l d j vs h r h'
theorem so_ok {x : Int} (h : am_okb x = true) : am_ok x := by
  unfold am_okb at h
  simp only [Bool.and_eq_true, decide_eq_true_eq] at h
  exact h
theorem am_call_ok {C : Nat → List am_V → am_H → Option am_V → am_H → Prop} {K : Nat → Nat → am_L → List am_V → am_H → Prop} {b nx t : Nat} {ls : am_L} {h : am_H} {args st : List am_V} (H : am_call C K b nx t ls h args st) : am_wd st ≤ 8 ∧ ∃ b1 r h1, am_ab t + b1 ≤ b ∧ C t args h r h1 ∧ K b1 nx ls (r.toList ++ st) h1 := by
  unfold am_call at H
  refine ⟨H.1, ?_⟩
  obtain ⟨-, H⟩ := H
  unfold am_ab
  by_cases z : t = am_BD
  · rw [if_pos z] at H ⊢
    cases b with
    | zero => exact H.elim
    | succ b => obtain ⟨r, h1, a1, a2⟩ := H; exact ⟨b, r, h1, by omega, a1, a2⟩
  · rw [if_neg z] at H ⊢
    obtain ⟨r, h1, a1, a2⟩ := H
    exact ⟨b, r, h1, by omega, a1, a2⟩
theorem am_math {d j : Nat} {vs : List am_V} {h : am_H} {r : Option am_V} {h1 : am_H} (hj : j = 87 ∨ j = 88) (H : am_cd d j vs h r h1) : ∃ a z, vs = [.inl a, .inl z] ∧ h1 = h ∧ r = some (.inl (if j = 87 then max a z else min a z)) := by
  cases d with
  | zero => exact H.elim
  | succ d =>
    have key : ∃ a z, vs = [.inl a, .inl z] := by
      obtain ⟨⟨q1, q2⟩, n, q3⟩ := H
      have l2 : vs.length = 2 := by
        rcases hj with z | z
        · subst z; exact q2
        · subst z; exact q2
      have m2 : am_ml j = 2 := by
        rcases hj with z | z
        · subst z; rfl
        · subst z; rfl
      have k0 : am_look j 0 = some (.iload_n 0, 1, 0, 0, 0) := by
        rcases hj with z | z
        · subst z; rfl
        · subst z; rfl
      have k1 : am_look j 1 = some (.iload_n 1, 2, 1, 0, 0) := by
        rcases hj with z | z
        · subst z; rfl
        · subst z; rfl
      match vs, l2 with
      | [v, w], _ =>
        cases n with
        | zero => exact q3.elim
        | succ n =>
          unfold am_w at q3
          rw [k0] at q3
          rcases v with a | a | a
          · replace q3 : am_w (am_cd d) j _ n _ 1 _ _ _ := q3
            cases n with
            | zero => exact q3.elim
            | succ n =>
              unfold am_w at q3
              rw [k1] at q3
              rcases w with z | z | z
              · exact ⟨a, z, rfl⟩
              · exact False.elim q3
              · exact False.elim q3
          · exact False.elim q3
          · exact False.elim q3
    obtain ⟨a, z, rfl⟩ := key
    refine ⟨a, z, rfl, ?_⟩
    rcases hj with y | y
    · subst y
      obtain ⟨a2, h2, e1, e2, e3⟩ := e_Math_max (h := h) (x0 := a) (x1 := z) (P := fun x g => x = max a z ∧ g = h) ⟨rfl, rfl⟩
      obtain ⟨g1, g2⟩ := am_cd_det (d + 1) _ _ _ _ _ _ _ H (am_cd_le (by omega) e1)
      exact ⟨g2.trans e3, by rw [g1, e2, if_pos rfl]⟩
    · subst y
      obtain ⟨a2, h2, e1, e2, e3⟩ := e_Math_min (h := h) (x0 := a) (x1 := z) (P := fun x g => x = min a z ∧ g = h) ⟨rfl, rfl⟩
      obtain ⟨g1, g2⟩ := am_cd_det (d + 1) _ _ _ _ _ _ _ H (am_cd_le (by omega) e1)
      exact ⟨g2.trans e3, by rw [g1, e2, if_neg (by decide)]⟩
theorem s_math {p : Program} {l : Launch} {e : Env} {R : Room} {s : State} {m : MethodId} {args : Array Value} {below : List Frame} {meth : Method} {c : Code} {k d mc ms L : Nat} {G : va_G} {cA : ClassId} {ad0 : Nat → Nat} {h0 : am_H} {A : Nat → Prop} {xs : Int → Int} {Z : State → Prop} {K : Nat → Nat → am_L → List am_V → am_H → Prop} {b pc cells slots : Nat} {ls : am_L} {st : List am_V} {h : am_H} {ad : Nat → Nat} {H : Heap} {locs : List Loc} {lsC : Array Slot} {i t u b1 : Nat} {st0 vs : List am_V} {r : Option am_V} {h1 : am_H} (F : so_F p R s m args c k d mc ms L G cA ad0 A xs) (KK : so_K p l e R s m args below meth c k mc ms L G cA ad0 h0 A xs Z K) (I : so_I s mc ms L G cA ad0 h0 A xs b cells slots h ad H locs) (Lo : so_L k ad h lsC ls st0) (hd : decode (am_by k) pc = .ok (.invokestatic i, 3)) (zm : t = 87 ∨ t = 88) (hp : am_pop u st0 [] = some (vs, st)) (hl : Cond.methodLink (am_on (am_ow k)) i (am_y t) ∈ lw_tbl) (hm : am_mok t = true) (hcw : Cond.code (am_y t) (am_by t) (am_ml t) (am_rt t) ∈ lw_tbl) (hw : am_wd st ≤ 8) (hC : am_cd d t vs h r h1) (hbb : am_ab t + b1 ≤ b) (hK1 : K b1 (pc + 3) ls (r.toList ++ st) h1) (hsc : am_sc t = true) : W p l e R s m args below meth c H locs cells slots Z (F0 m pc lsC (st0.map (sv ad))) := by
  obtain ⟨⟨hx, hb, hml, hown, hts⟩, ⟨hK, hA, hfx⟩, hRf, hRl, hRc, hRs⟩ := F
  obtain ⟨i1, i2, ⟨hP, hD, hS⟩, i4, i5⟩ := id I
  obtain ⟨hp1, hp2⟩ := am_pop_of hp
  obtain ⟨m1, m2, m3, m4, m5, m6, m7, m8, m9⟩ := so_mok hm
  obtain ⟨a, z, rfl, rfl, rfl⟩ := am_math zm hC
  have L1 : so_L k ad h1 lsC ls st := so_Ld Lo (fun w q => by rw [hp1]; exact List.mem_append_right _ q)
  have oa : am_ok a := Lo.2 (.inl a) (by rw [hp1]; simp)
  have oz : am_ok z := Lo.2 (.inl z) (by rw [hp1]; simp)
  have hz : c.maxLocals = lsC.size := hml.trans (Lo.1.1.1.trans Lo.1.2.1).symm
  have hW8 : ((st.map (sv ad)).map fun v => v.category).sum ≤ 8 := by rw [sv_wd]; exact hw
  have es : st0.map (sv ad) = .int (Int32.ofInt z) :: .int (Int32.ofInt a) :: st.map (sv ad) := by rw [hp1]; rfl
  have n1 := m2 hsc
  have I1 : so_I s mc ms L G cA ad0 h0 A xs b1 cells slots h1 ad H locs := ⟨i1, i2, ⟨hP, hD, hS⟩, by omega, by omega⟩
  rw [es]
  rcases zm with y | y
  · subst y
    refine va_mmax hx hb hz hown (hts _ (gw hl rfl)) (hts _ (gw n1 rfl)) (hts _ (gw m1 rfl)) (hts _ (gw hcw rfl)) (by omega) (by omega) (by omega) (by omega) hd ?_
    have ei : (if (87 : Nat) = 87 then max a z else min a z) = max a z := if_pos rfl
    have e : (if Int32.ofInt a < Int32.ofInt z then Int32.ofInt z else Int32.ofInt a) = Int32.ofInt (if (87 : Nat) = 87 then max a z else min a z) := by
      rw [ei]
      by_cases q : a < z
      · rw [if_pos ((sI_lt oa oz).mpr q), show max a z = z by omega]
      · rw [if_neg (fun w => q ((sI_lt oa oz).mp w)), show max a z = a by omega]
    rw [e]
    exact KK _ _ _ _ _ hK1 ad H locs cells slots lsC I1 (so_Lp L1 (by show am_ok (if (87 : Nat) = 87 then max a z else min a z); rw [ei]; constructor <;> omega) (fun _ q => q))
  · subst y
    refine va_mmin hx hb hz hown (hts _ (gw hl rfl)) (hts _ (gw n1 rfl)) (hts _ (gw m1 rfl)) (hts _ (gw hcw rfl)) (by omega) (by omega) (by omega) (by omega) hd ?_
    have ei : (if (88 : Nat) = 87 then max a z else min a z) = min a z := if_neg (by decide)
    have e : (if Int32.ofInt z < Int32.ofInt a then Int32.ofInt z else Int32.ofInt a) = Int32.ofInt (if (88 : Nat) = 87 then max a z else min a z) := by
      rw [ei]
      by_cases q : z < a
      · rw [if_pos ((sI_lt oz oa).mpr q), show min a z = z by omega]
      · rw [if_neg (fun w => q ((sI_lt oz oa).mp w)), show min a z = a by omega]
    rw [e]
    exact KK _ _ _ _ _ hK1 ad H locs cells slots lsC I1 (so_Lp L1 (by show am_ok (if (88 : Nat) = 87 then max a z else min a z); rw [ei]; constructor <;> omega) (fun _ q => q))
set_option maxHeartbeats 4000000 in
theorem so_step {p : Program} {l : Launch} {e : Env} {R : Room} {s : State} {m : MethodId} {args : Array Value} {below : List Frame} {meth : Method} {c : Code} {k d mc ms L : Nat} {G : va_G} {cA : ClassId} {ad0 : Nat → Nat} {h0 : am_H} {A : Nat → Prop} {xs : Int → Int} {Z : State → Prop} {K : Nat → Nat → am_L → List am_V → am_H → Prop} {b pc cells slots : Nat} {ls : am_L} {st : List am_V} {h : am_H} {ad : Nat → Nat} {H : Heap} {locs : List Loc} {lsC : Array Slot} {Q : am_Q} {i : Instr} {ln nx t u : Nat} {x : Int} (SS : so_stat) (hk : k < 232) (F : so_F p R s m args c k d mc ms L G cA ad0 A xs) (KK : so_K p l e R s m args below meth c k mc ms L G cA ad0 h0 A xs Z K) (ZZ : so_Z p l e R s m args below meth c k mc ms L G cA ad0 h0 A xs Z Q) (IH : so_IH l d) (I : so_I s mc ms L G cA ad0 h0 A xs b cells slots h ad H locs) (Lo : so_L k ad h lsC ls st) (hd : decode (am_by k) pc = .ok (i, ln)) (hn : pc + ln = nx) (hs : am_sk k pc nx t u x i = true) (H1 : am_i (am_cd d) K Q (am_zb k) b pc ls st h nx t u x i) : W p l e R s m args below meth c H locs cells slots Z (F0 m pc lsC (st.map (sv ad))) := by
  cases i
  case iconst z =>
    unfold am_sk at hs
    simp only [Bool.and_eq_true, beq_iff_eq, decide_eq_true_eq] at hs
    obtain ⟨⟨q1, q2⟩, q3⟩ := hs
    have e1 : nx = pc + 1 := q1
    subst e1
    have e2 : ln = 1 := by omega
    subst e2
    subst q2
    exact s_iconst F KK I Lo hd rfl (so_ok q3) H1
  case bipush z =>
    unfold am_sk at hs
    simp only [Bool.and_eq_true, beq_iff_eq, decide_eq_true_eq] at hs
    obtain ⟨⟨q1, q2⟩, q3⟩ := hs
    have e1 : nx = pc + 2 := q1
    subst e1
    have e2 : ln = 2 := by omega
    subst e2
    exact s_bipush F KK I Lo hd q2 (so_ok q3) H1
  case sipush z =>
    unfold am_sk at hs
    simp only [Bool.and_eq_true, beq_iff_eq, decide_eq_true_eq] at hs
    obtain ⟨⟨q1, q2⟩, q3⟩ := hs
    have e1 : nx = pc + 3 := q1
    subst e1
    have e2 : ln = 3 := by omega
    subst e2
    exact s_sipush F KK I Lo hd q2 (so_ok q3) H1
  case ldc i =>
    unfold am_sk at hs
    simp only [Bool.and_eq_true, beq_iff_eq, decide_eq_true_eq] at hs
    obtain ⟨⟨q1, q2⟩, q3⟩ := hs
    have e1 : nx = pc + 2 := q1
    subst e1
    have e2 : ln = 2 := by omega
    subst e2
    obtain ⟨y, y0, y1, y2, y3⟩ := am_kz_mem q2
    have w := SS.2.2.2.2.2.2.1 y y0
    rw [y1, y2, y3] at w
    exact s_ldc F KK I Lo hd w (so_ok q3) H1
  case ldc_w i =>
    unfold am_sk at hs
    simp only [Bool.and_eq_true, beq_iff_eq, decide_eq_true_eq] at hs
    obtain ⟨⟨q1, q2⟩, q3⟩ := hs
    have e1 : nx = pc + 3 := q1
    subst e1
    have e2 : ln = 3 := by omega
    subst e2
    obtain ⟨y, y0, y1, y2, y3⟩ := am_kz_mem q2
    have w := SS.2.2.2.2.2.2.1 y y0
    rw [y1, y2, y3] at w
    exact s_ldc_w F KK I Lo hd w (so_ok q3) H1
  case ldc2_w i =>
    unfold am_sk at hs
    simp only [Bool.and_eq_true, beq_iff_eq, decide_eq_true_eq] at hs
    obtain ⟨q1, q2⟩ := hs
    have e1 : nx = pc + 3 := q1
    subst e1
    have e2 : ln = 3 := by omega
    subst e2
    obtain ⟨y, y0, y1, y2, y3⟩ := am_kz_mem q2
    have w := SS.2.2.2.2.2.2.2.1 y y0
    rw [y1, y2, y3] at w
    exact s_ldc2 F KK I Lo hd w H1
  case iload_n f =>
    unfold am_sk at hs
    simp only [Bool.and_eq_true, beq_iff_eq, decide_eq_true_eq] at hs
    obtain ⟨q1, q2⟩ := hs
    have e1 : nx = pc + 1 := q1
    subst e1
    have e2 : ln = 1 := by omega
    subst e2
    subst q2
    unfold am_i at H1
    dsimp only at H1
    cases hg : am_g ls f.val with
    | none => rw [hg] at H1; exact False.elim H1
    | some v =>
      rw [hg] at H1
      rcases v with a | a | a
      · exact s_iload_n F KK I Lo hd hg H1
      · exact False.elim H1
      · exact False.elim H1
  case aload_n f =>
    unfold am_sk at hs
    simp only [Bool.and_eq_true, beq_iff_eq, decide_eq_true_eq] at hs
    obtain ⟨q1, q2⟩ := hs
    have e1 : nx = pc + 1 := q1
    subst e1
    have e2 : ln = 1 := by omega
    subst e2
    subst q2
    unfold am_i at H1
    dsimp only at H1
    cases hg : am_g ls f.val with
    | none => rw [hg] at H1; exact False.elim H1
    | some v =>
      rw [hg] at H1
      rcases v with a | a | a
      · exact False.elim H1
      · exact False.elim H1
      · exact s_aload_n F KK I Lo hd hg H1
  case lload_n f =>
    unfold am_sk at hs
    simp only [Bool.and_eq_true, beq_iff_eq, decide_eq_true_eq] at hs
    obtain ⟨q1, q2⟩ := hs
    have e1 : nx = pc + 1 := q1
    subst e1
    have e2 : ln = 1 := by omega
    subst e2
    subst q2
    unfold am_i at H1
    dsimp only at H1
    cases hg : am_g ls f.val with
    | none => rw [hg] at H1; exact False.elim H1
    | some v =>
      rw [hg] at H1
      rcases v with a | a | a
      · exact False.elim H1
      · exact s_lload_n F KK I Lo hd hg H1
      · exact False.elim H1
  case iload f =>
    unfold am_sk at hs
    simp only [Bool.and_eq_true, beq_iff_eq, decide_eq_true_eq] at hs
    obtain ⟨q1, q2⟩ := hs
    have e1 : nx = pc + 2 := q1
    subst e1
    have e2 : ln = 2 := by omega
    subst e2
    subst q2
    unfold am_i at H1
    dsimp only at H1
    cases hg : am_g ls t with
    | none => rw [hg] at H1; exact False.elim H1
    | some v =>
      rw [hg] at H1
      rcases v with a | a | a
      · exact s_iload F KK I Lo hd hg H1
      · exact False.elim H1
      · exact False.elim H1
  case aload f =>
    unfold am_sk at hs
    simp only [Bool.and_eq_true, beq_iff_eq, decide_eq_true_eq] at hs
    obtain ⟨q1, q2⟩ := hs
    have e1 : nx = pc + 2 := q1
    subst e1
    have e2 : ln = 2 := by omega
    subst e2
    subst q2
    unfold am_i at H1
    dsimp only at H1
    cases hg : am_g ls t with
    | none => rw [hg] at H1; exact False.elim H1
    | some v =>
      rw [hg] at H1
      rcases v with a | a | a
      · exact False.elim H1
      · exact False.elim H1
      · exact s_aload F KK I Lo hd hg H1
  case istore_n f =>
    unfold am_sk at hs
    simp only [Bool.and_eq_true, beq_iff_eq, decide_eq_true_eq] at hs
    obtain ⟨q1, q2⟩ := hs
    have e1 : nx = pc + 1 := q1
    subst e1
    have e2 : ln = 1 := by omega
    subst e2
    subst q2
    rcases st with _ | ⟨v0, st⟩
    · exact False.elim H1
    · rcases v0 with a0 | a0 | a0
      · exact s_istore_n F KK I Lo hd H1.1 H1.2
      · exact False.elim H1
      · exact False.elim H1
  case astore_n f =>
    unfold am_sk at hs
    simp only [Bool.and_eq_true, beq_iff_eq, decide_eq_true_eq] at hs
    obtain ⟨q1, q2⟩ := hs
    have e1 : nx = pc + 1 := q1
    subst e1
    have e2 : ln = 1 := by omega
    subst e2
    subst q2
    rcases st with _ | ⟨v0, st⟩
    · exact False.elim H1
    · rcases v0 with a0 | a0 | a0
      · exact False.elim H1
      · exact False.elim H1
      · exact s_astore_n F KK I Lo hd H1.1 H1.2
  case istore f =>
    unfold am_sk at hs
    simp only [Bool.and_eq_true, beq_iff_eq, decide_eq_true_eq] at hs
    obtain ⟨q1, q2⟩ := hs
    have e1 : nx = pc + 2 := q1
    subst e1
    have e2 : ln = 2 := by omega
    subst e2
    subst q2
    rcases st with _ | ⟨v0, st⟩
    · exact False.elim H1
    · rcases v0 with a0 | a0 | a0
      · exact s_istore F KK I Lo hd H1.1 H1.2
      · exact False.elim H1
      · exact False.elim H1
  case astore f =>
    unfold am_sk at hs
    simp only [Bool.and_eq_true, beq_iff_eq, decide_eq_true_eq] at hs
    obtain ⟨q1, q2⟩ := hs
    have e1 : nx = pc + 2 := q1
    subst e1
    have e2 : ln = 2 := by omega
    subst e2
    subst q2
    rcases st with _ | ⟨v0, st⟩
    · exact False.elim H1
    · rcases v0 with a0 | a0 | a0
      · exact False.elim H1
      · exact False.elim H1
      · exact s_astore F KK I Lo hd H1.1 H1.2
  case iinc n z =>
    unfold am_sk at hs
    simp only [Bool.and_eq_true, beq_iff_eq, decide_eq_true_eq] at hs
    obtain ⟨⟨q1, q2⟩, q3⟩ := hs
    have e1 : nx = pc + 3 := q1
    subst e1
    have e2 : ln = 3 := by omega
    subst e2
    subst q2
    subst q3
    unfold am_i at H1
    dsimp only at H1
    cases hg : am_g ls t with
    | none => rw [hg] at H1; exact False.elim H1
    | some v =>
      rw [hg] at H1
      rcases v with a | a | a
      · exact s_iinc F KK I Lo hd hg H1.1 H1.2.1 H1.2.2
      · exact False.elim H1
      · exact False.elim H1
  case iadd =>
    unfold am_sk at hs
    simp only [beq_iff_eq] at hs
    have e1 : nx = pc + 1 := hs
    subst e1
    have e2 : ln = 1 := by omega
    subst e2
    rcases st with _ | ⟨v0, st⟩
    · exact False.elim H1
    · rcases v0 with a0 | a0 | a0
      · rcases st with _ | ⟨v1, st⟩
        · exact False.elim H1
        · rcases v1 with a1 | a1 | a1
          · exact s_iadd F KK I Lo hd H1.1 H1.2
          · exact False.elim H1
          · exact False.elim H1
      · exact False.elim H1
      · exact False.elim H1
  case isub =>
    unfold am_sk at hs
    simp only [beq_iff_eq] at hs
    have e1 : nx = pc + 1 := hs
    subst e1
    have e2 : ln = 1 := by omega
    subst e2
    rcases st with _ | ⟨v0, st⟩
    · exact False.elim H1
    · rcases v0 with a0 | a0 | a0
      · rcases st with _ | ⟨v1, st⟩
        · exact False.elim H1
        · rcases v1 with a1 | a1 | a1
          · exact s_isub F KK I Lo hd H1.1 H1.2
          · exact False.elim H1
          · exact False.elim H1
      · exact False.elim H1
      · exact False.elim H1
  case imul =>
    unfold am_sk at hs
    simp only [beq_iff_eq] at hs
    have e1 : nx = pc + 1 := hs
    subst e1
    have e2 : ln = 1 := by omega
    subst e2
    rcases st with _ | ⟨v0, st⟩
    · exact False.elim H1
    · rcases v0 with a0 | a0 | a0
      · rcases st with _ | ⟨v1, st⟩
        · exact False.elim H1
        · rcases v1 with a1 | a1 | a1
          · exact s_imul F KK I Lo hd H1.1 H1.2
          · exact False.elim H1
          · exact False.elim H1
      · exact False.elim H1
      · exact False.elim H1
  case idiv =>
    unfold am_sk at hs
    simp only [beq_iff_eq] at hs
    have e1 : nx = pc + 1 := hs
    subst e1
    have e2 : ln = 1 := by omega
    subst e2
    rcases st with _ | ⟨v0, st⟩
    · exact False.elim H1
    · rcases v0 with a0 | a0 | a0
      · rcases st with _ | ⟨v1, st⟩
        · exact False.elim H1
        · rcases v1 with a1 | a1 | a1
          · exact s_idiv F KK I Lo hd H1.1 H1.2
          · exact False.elim H1
          · exact False.elim H1
      · exact False.elim H1
      · exact False.elim H1
  case irem =>
    unfold am_sk at hs
    simp only [beq_iff_eq] at hs
    have e1 : nx = pc + 1 := hs
    subst e1
    have e2 : ln = 1 := by omega
    subst e2
    rcases st with _ | ⟨v0, st⟩
    · exact False.elim H1
    · rcases v0 with a0 | a0 | a0
      · rcases st with _ | ⟨v1, st⟩
        · exact False.elim H1
        · rcases v1 with a1 | a1 | a1
          · exact s_irem F KK I Lo hd H1.1 H1.2
          · exact False.elim H1
          · exact False.elim H1
      · exact False.elim H1
      · exact False.elim H1
  case iand =>
    unfold am_sk at hs
    simp only [beq_iff_eq] at hs
    have e1 : nx = pc + 1 := hs
    subst e1
    have e2 : ln = 1 := by omega
    subst e2
    rcases st with _ | ⟨v0, st⟩
    · exact False.elim H1
    · rcases v0 with a0 | a0 | a0
      · rcases st with _ | ⟨v1, st⟩
        · exact False.elim H1
        · rcases v1 with a1 | a1 | a1
          · exact s_iand F KK I Lo hd H1
          · exact False.elim H1
          · exact False.elim H1
      · exact False.elim H1
      · exact False.elim H1
  case ior =>
    unfold am_sk at hs
    simp only [beq_iff_eq] at hs
    have e1 : nx = pc + 1 := hs
    subst e1
    have e2 : ln = 1 := by omega
    subst e2
    rcases st with _ | ⟨v0, st⟩
    · exact False.elim H1
    · rcases v0 with a0 | a0 | a0
      · rcases st with _ | ⟨v1, st⟩
        · exact False.elim H1
        · rcases v1 with a1 | a1 | a1
          · exact s_ior F KK I Lo hd H1
          · exact False.elim H1
          · exact False.elim H1
      · exact False.elim H1
      · exact False.elim H1
  case ixor =>
    unfold am_sk at hs
    simp only [beq_iff_eq] at hs
    have e1 : nx = pc + 1 := hs
    subst e1
    have e2 : ln = 1 := by omega
    subst e2
    rcases st with _ | ⟨v0, st⟩
    · exact False.elim H1
    · rcases v0 with a0 | a0 | a0
      · rcases st with _ | ⟨v1, st⟩
        · exact False.elim H1
        · rcases v1 with a1 | a1 | a1
          · exact s_ixor F KK I Lo hd H1
          · exact False.elim H1
          · exact False.elim H1
      · exact False.elim H1
      · exact False.elim H1
  case ishl =>
    unfold am_sk at hs
    simp only [beq_iff_eq] at hs
    have e1 : nx = pc + 1 := hs
    subst e1
    have e2 : ln = 1 := by omega
    subst e2
    rcases st with _ | ⟨v0, st⟩
    · exact False.elim H1
    · rcases v0 with a0 | a0 | a0
      · rcases st with _ | ⟨v1, st⟩
        · exact False.elim H1
        · rcases v1 with a1 | a1 | a1
          · exact s_ishl F KK I Lo hd H1
          · exact False.elim H1
          · exact False.elim H1
      · exact False.elim H1
      · exact False.elim H1
  case ishr =>
    unfold am_sk at hs
    simp only [beq_iff_eq] at hs
    have e1 : nx = pc + 1 := hs
    subst e1
    have e2 : ln = 1 := by omega
    subst e2
    rcases st with _ | ⟨v0, st⟩
    · exact False.elim H1
    · rcases v0 with a0 | a0 | a0
      · rcases st with _ | ⟨v1, st⟩
        · exact False.elim H1
        · rcases v1 with a1 | a1 | a1
          · exact s_ishr F KK I Lo hd H1
          · exact False.elim H1
          · exact False.elim H1
      · exact False.elim H1
      · exact False.elim H1
  case iushr =>
    unfold am_sk at hs
    simp only [beq_iff_eq] at hs
    have e1 : nx = pc + 1 := hs
    subst e1
    have e2 : ln = 1 := by omega
    subst e2
    rcases st with _ | ⟨v0, st⟩
    · exact False.elim H1
    · rcases v0 with a0 | a0 | a0
      · rcases st with _ | ⟨v1, st⟩
        · exact False.elim H1
        · rcases v1 with a1 | a1 | a1
          · exact s_iushr F KK I Lo hd H1
          · exact False.elim H1
          · exact False.elim H1
      · exact False.elim H1
      · exact False.elim H1
  case ladd =>
    unfold am_sk at hs
    simp only [beq_iff_eq] at hs
    have e1 : nx = pc + 1 := hs
    subst e1
    have e2 : ln = 1 := by omega
    subst e2
    rcases st with _ | ⟨v0, st⟩
    · exact False.elim H1
    · rcases v0 with a0 | a0 | a0
      · exact False.elim H1
      · rcases st with _ | ⟨v1, st⟩
        · exact False.elim H1
        · rcases v1 with a1 | a1 | a1
          · exact False.elim H1
          · exact s_ladd F KK I Lo hd H1
          · exact False.elim H1
      · exact False.elim H1
  case land =>
    unfold am_sk at hs
    simp only [beq_iff_eq] at hs
    have e1 : nx = pc + 1 := hs
    subst e1
    have e2 : ln = 1 := by omega
    subst e2
    rcases st with _ | ⟨v0, st⟩
    · exact False.elim H1
    · rcases v0 with a0 | a0 | a0
      · exact False.elim H1
      · rcases st with _ | ⟨v1, st⟩
        · exact False.elim H1
        · rcases v1 with a1 | a1 | a1
          · exact False.elim H1
          · exact s_land F KK I Lo hd H1
          · exact False.elim H1
      · exact False.elim H1
  case lor =>
    unfold am_sk at hs
    simp only [beq_iff_eq] at hs
    have e1 : nx = pc + 1 := hs
    subst e1
    have e2 : ln = 1 := by omega
    subst e2
    rcases st with _ | ⟨v0, st⟩
    · exact False.elim H1
    · rcases v0 with a0 | a0 | a0
      · exact False.elim H1
      · rcases st with _ | ⟨v1, st⟩
        · exact False.elim H1
        · rcases v1 with a1 | a1 | a1
          · exact False.elim H1
          · exact s_lor F KK I Lo hd H1
          · exact False.elim H1
      · exact False.elim H1
  case lcmp =>
    unfold am_sk at hs
    simp only [beq_iff_eq] at hs
    have e1 : nx = pc + 1 := hs
    subst e1
    have e2 : ln = 1 := by omega
    subst e2
    rcases st with _ | ⟨v0, st⟩
    · exact False.elim H1
    · rcases v0 with a0 | a0 | a0
      · exact False.elim H1
      · rcases st with _ | ⟨v1, st⟩
        · exact False.elim H1
        · rcases v1 with a1 | a1 | a1
          · exact False.elim H1
          · exact s_lcmp F KK I Lo hd H1
          · exact False.elim H1
      · exact False.elim H1
  case lshl =>
    unfold am_sk at hs
    simp only [beq_iff_eq] at hs
    have e1 : nx = pc + 1 := hs
    subst e1
    have e2 : ln = 1 := by omega
    subst e2
    rcases st with _ | ⟨v0, st⟩
    · exact False.elim H1
    · rcases v0 with a0 | a0 | a0
      · rcases st with _ | ⟨v1, st⟩
        · exact False.elim H1
        · rcases v1 with a1 | a1 | a1
          · exact False.elim H1
          · exact s_lshl F KK I Lo hd H1
          · exact False.elim H1
      · exact False.elim H1
      · exact False.elim H1
  case lshr =>
    unfold am_sk at hs
    simp only [beq_iff_eq] at hs
    have e1 : nx = pc + 1 := hs
    subst e1
    have e2 : ln = 1 := by omega
    subst e2
    rcases st with _ | ⟨v0, st⟩
    · exact False.elim H1
    · rcases v0 with a0 | a0 | a0
      · rcases st with _ | ⟨v1, st⟩
        · exact False.elim H1
        · rcases v1 with a1 | a1 | a1
          · exact False.elim H1
          · exact s_lshr F KK I Lo hd H1
          · exact False.elim H1
      · exact False.elim H1
      · exact False.elim H1
  case lushr =>
    unfold am_sk at hs
    simp only [beq_iff_eq] at hs
    have e1 : nx = pc + 1 := hs
    subst e1
    have e2 : ln = 1 := by omega
    subst e2
    rcases st with _ | ⟨v0, st⟩
    · exact False.elim H1
    · rcases v0 with a0 | a0 | a0
      · rcases st with _ | ⟨v1, st⟩
        · exact False.elim H1
        · rcases v1 with a1 | a1 | a1
          · exact False.elim H1
          · exact s_lushr F KK I Lo hd H1
          · exact False.elim H1
      · exact False.elim H1
      · exact False.elim H1
  case i2l =>
    unfold am_sk at hs
    simp only [beq_iff_eq] at hs
    have e1 : nx = pc + 1 := hs
    subst e1
    have e2 : ln = 1 := by omega
    subst e2
    rcases st with _ | ⟨v0, st⟩
    · exact False.elim H1
    · rcases v0 with a0 | a0 | a0
      · exact s_i2l F KK I Lo hd H1
      · exact False.elim H1
      · exact False.elim H1
  case l2i =>
    unfold am_sk at hs
    simp only [beq_iff_eq] at hs
    have e1 : nx = pc + 1 := hs
    subst e1
    have e2 : ln = 1 := by omega
    subst e2
    rcases st with _ | ⟨v0, st⟩
    · exact False.elim H1
    · rcases v0 with a0 | a0 | a0
      · exact False.elim H1
      · exact s_l2i F KK I Lo hd H1
      · exact False.elim H1
  case i2b =>
    unfold am_sk at hs
    simp only [beq_iff_eq] at hs
    have e1 : nx = pc + 1 := hs
    subst e1
    have e2 : ln = 1 := by omega
    subst e2
    rcases st with _ | ⟨v0, st⟩
    · exact False.elim H1
    · rcases v0 with a0 | a0 | a0
      · exact s_i2b F KK I Lo hd H1
      · exact False.elim H1
      · exact False.elim H1
  case i2s =>
    unfold am_sk at hs
    simp only [beq_iff_eq] at hs
    have e1 : nx = pc + 1 := hs
    subst e1
    have e2 : ln = 1 := by omega
    subst e2
    rcases st with _ | ⟨v0, st⟩
    · exact False.elim H1
    · rcases v0 with a0 | a0 | a0
      · exact s_i2s F KK I Lo hd H1
      · exact False.elim H1
      · exact False.elim H1
  case dup =>
    unfold am_sk at hs
    simp only [beq_iff_eq] at hs
    have e1 : nx = pc + 1 := hs
    subst e1
    have e2 : ln = 1 := by omega
    subst e2
    rcases st with _ | ⟨v, st⟩
    · exact False.elim H1
    · exact s_dup F KK I Lo hd H1.1 H1.2
  case dup_x1 =>
    unfold am_sk at hs
    simp only [beq_iff_eq] at hs
    have e1 : nx = pc + 1 := hs
    subst e1
    have e2 : ln = 1 := by omega
    subst e2
    rcases st with _ | ⟨v, st⟩
    · exact False.elim H1
    · rcases st with _ | ⟨w, st⟩
      · exact False.elim H1
      · exact s_dup_x1 F KK I Lo hd H1.1 H1.2
  case dup2 =>
    unfold am_sk at hs
    simp only [beq_iff_eq] at hs
    have e1 : nx = pc + 1 := hs
    subst e1
    have e2 : ln = 1 := by omega
    subst e2
    rcases st with _ | ⟨v, st⟩
    · exact False.elim H1
    · rcases st with _ | ⟨w, st⟩
      · exact False.elim H1
      · exact s_dup2 F KK I Lo hd H1.1 H1.2
  case ifCond cc o =>
    unfold am_sk at hs
    simp only [Bool.and_eq_true, beq_iff_eq, decide_eq_true_eq] at hs
    obtain ⟨q1, q2⟩ := hs
    have e1 : nx = pc + 3 := q1
    subst e1
    have e2 : ln = 3 := by omega
    subst e2
    rcases st with _ | ⟨v0, st⟩
    · exact False.elim H1
    · rcases v0 with a0 | a0 | a0
      · exact s_ifCond F KK I Lo hd q2 H1
      · exact False.elim H1
      · exact False.elim H1
  case if_icmp cc o =>
    unfold am_sk at hs
    simp only [Bool.and_eq_true, beq_iff_eq, decide_eq_true_eq] at hs
    obtain ⟨q1, q2⟩ := hs
    have e1 : nx = pc + 3 := q1
    subst e1
    have e2 : ln = 3 := by omega
    subst e2
    rcases st with _ | ⟨v0, st⟩
    · exact False.elim H1
    · rcases v0 with a0 | a0 | a0
      · rcases st with _ | ⟨v1, st⟩
        · exact False.elim H1
        · rcases v1 with a1 | a1 | a1
          · exact s_icmp F KK I Lo hd q2 H1
          · exact False.elim H1
          · exact False.elim H1
      · exact False.elim H1
      · exact False.elim H1
  case goto o =>
    unfold am_sk at hs
    simp only [Bool.and_eq_true, beq_iff_eq, decide_eq_true_eq] at hs
    obtain ⟨q1, q2⟩ := hs
    have e1 : nx = pc + 3 := q1
    subst e1
    have e2 : ln = 3 := by omega
    subst e2
    exact s_goto F KK I Lo hd q2 H1
  case tableswitch dd lo hi os =>
    unfold am_sk at hs
    simp only [Bool.and_eq_true, decide_eq_true_eq] at hs
    obtain ⟨⟨q1, q2⟩, q3⟩ := hs
    rcases st with _ | ⟨v0, st⟩
    · exact False.elim H1
    · rcases v0 with a0 | a0 | a0
      · exact s_table F KK I Lo hd q1 (fun o ho => of_decide_eq_true (List.all_eq_true.mp q2 o ho)) q3 H1
      · exact False.elim H1
      · exact False.elim H1
  case lookupswitch dd ps =>
    unfold am_sk at hs
    rw [Bool.and_eq_true, Bool.and_eq_true, decide_eq_true_eq] at hs
    obtain ⟨⟨q1, q2⟩, q3⟩ := hs
    rcases st with _ | ⟨v0, st⟩
    · exact False.elim H1
    · rcases v0 with a0 | a0 | a0
      · exact s_lookup F KK I Lo hd q1 (fun o ho => of_decide_eq_true (List.all_eq_true.mp q2 o ho)) q3 H1
      · exact False.elim H1
      · exact False.elim H1
  case getfield i =>
    unfold am_sk at hs
    simp only [Bool.and_eq_true, beq_iff_eq, decide_eq_true_eq] at hs
    obtain ⟨⟨⟨q1, q2⟩, q3⟩, q4⟩ := hs
    have e1 : nx = pc + 3 := q1
    subst e1
    have e2 : ln = 3 := by omega
    subst e2
    subst q4
    obtain ⟨y, y0, y1, y2, y3⟩ := am_kf_mem q2
    have w := SS.2.2.2.1 y y0
    rw [y1, y2, y3] at w
    rcases st with _ | ⟨v, st⟩
    · exact False.elim H1
    · rcases v with a | a | a
      · exact False.elim H1
      · exact False.elim H1
      · unfold am_i at H1
        dsimp only at H1
        cases hf : am_fd a t with
        | none => rw [hf] at H1; exact False.elim H1
        | some o =>
          rw [hf] at H1
          cases o with
          | none => exact s_getf F KK I Lo hd w hf H1
          | some r => exact s_getf F KK I Lo hd w hf H1
  case putfield i =>
    unfold am_sk at hs
    simp only [Bool.and_eq_true, beq_iff_eq, decide_eq_true_eq] at hs
    obtain ⟨⟨⟨q1, q2⟩, q3⟩, q4⟩ := hs
    have e1 : nx = pc + 3 := q1
    subst e1
    have e2 : ln = 3 := by omega
    subst e2
    subst q4
    obtain ⟨y, y0, y1, y2, y3⟩ := am_kf_mem q2
    have w := SS.2.2.2.1 y y0
    rw [y1, y2, y3] at w
    rcases st with _ | ⟨v0, st⟩
    · exact False.elim H1
    · rcases v0 with a0 | a0 | a0
      · rcases st with _ | ⟨v1, st⟩
        · exact False.elim H1
        · rcases v1 with a1 | a1 | a1
          · exact False.elim H1
          · exact False.elim H1
          · exact s_putf F KK I Lo hd w H1.1 H1.2
      · exact False.elim H1
      · exact False.elim H1
  case getstatic i =>
    unfold am_sk at hs
    simp only [Bool.and_eq_true, beq_iff_eq, decide_eq_true_eq] at hs
    obtain ⟨q1, q2⟩ := hs
    have e1 : nx = pc + 3 := q1
    subst e1
    have e2 : ln = 3 := by omega
    subst e2
    obtain ⟨y, y0, y1, y2, y3⟩ := am_kf_mem q2
    have w := SS.2.2.2.2.2.2.2.2.1 y y0
    rw [y1, y2, y3] at w
    exact s_gets F KK I Lo hd w.1 w.2 H1
  case iaload =>
    unfold am_sk at hs
    simp only [beq_iff_eq] at hs
    have e1 : nx = pc + 1 := hs
    subst e1
    have e2 : ln = 1 := by omega
    subst e2
    rcases st with _ | ⟨v0, st⟩
    · exact False.elim H1
    · rcases v0 with a0 | a0 | a0
      · rcases st with _ | ⟨v1, st⟩
        · exact False.elim H1
        · rcases v1 with a1 | a1 | a1
          · exact False.elim H1
          · exact False.elim H1
          · (unfold am_i at H1; dsimp only at H1; cases ha : am_al h a1 with | none => (rw [ha] at H1; exact False.elim H1) | some n => (rw [ha] at H1; exact s_iald F KK I Lo hd ha H1.1 H1.2))
      · exact False.elim H1
      · exact False.elim H1
  case iastore =>
    unfold am_sk at hs
    simp only [beq_iff_eq] at hs
    have e1 : nx = pc + 1 := hs
    subst e1
    have e2 : ln = 1 := by omega
    subst e2
    rcases st with _ | ⟨v0, st⟩
    · exact False.elim H1
    · rcases v0 with a0 | a0 | a0
      · rcases st with _ | ⟨v1, st⟩
        · exact False.elim H1
        · rcases v1 with a1 | a1 | a1
          · rcases st with _ | ⟨v2, st⟩
            · exact False.elim H1
            · rcases v2 with a2 | a2 | a2
              · exact False.elim H1
              · exact False.elim H1
              · (unfold am_i at H1; dsimp only at H1; cases ha : am_al h a2 with | none => (rw [ha] at H1; exact False.elim H1) | some n => (rw [ha] at H1; exact s_iast F KK I Lo hd ha H1.1 H1.2.1 H1.2.2))
          · exact False.elim H1
          · exact False.elim H1
      · exact False.elim H1
      · exact False.elim H1
  case arraylength =>
    unfold am_sk at hs
    simp only [beq_iff_eq] at hs
    have e1 : nx = pc + 1 := hs
    subst e1
    have e2 : ln = 1 := by omega
    subst e2
    rcases st with _ | ⟨v0, st⟩
    · exact False.elim H1
    · rcases v0 with a0 | a0 | a0
      · exact False.elim H1
      · exact False.elim H1
      · (unfold am_i at H1; dsimp only at H1; cases ha : am_al h a0 with | none => (rw [ha] at H1; exact False.elim H1) | some n => (rw [ha] at H1; exact s_alen F KK I Lo hd ha H1))
  case newarray a =>
    unfold am_sk at hs
    simp only [Bool.and_eq_true, beq_iff_eq, decide_eq_true_eq] at hs
    obtain ⟨q1, q2⟩ := hs
    have e1 : nx = pc + 2 := q1
    subst e1
    have e2 : ln = 2 := by omega
    subst e2
    subst q2
    rcases st with _ | ⟨v0, st⟩
    · exact False.elim H1
    · rcases v0 with a0 | a0 | a0
      · (unfold am_i at H1; dsimp only at H1; cases b with | zero => exact False.elim H1.2.2 | succ b => exact s_newa F KK I Lo hd SS.2.2.2.2.2.2.2.2.2.2 rfl H1.1 H1.2.1 H1.2.2)
      · exact False.elim H1
      · exact False.elim H1
  case invokevirtual i =>
    unfold am_sk at hs
    simp only [Bool.and_eq_true, beq_iff_eq, decide_eq_true_eq, Bool.not_eq_true'] at hs
    obtain ⟨⟨⟨⟨⟨q1, q2⟩, q3⟩, q4⟩, q5⟩, q6⟩ := hs
    have e1 : nx = pc + 3 := q1
    subst e1
    have e2 : ln = 3 := by omega
    subst e2
    obtain ⟨y, y0, y1, y2, y3⟩ := am_kf_mem q2
    have w := SS.2.2.2.2.1 y y0
    rw [y1, y2, y3] at w
    unfold am_i at H1
    dsimp only at H1
    cases hp : am_pop u st [] with
    | none => rw [hp] at H1; exact False.elim H1
    | some pr =>
      obtain ⟨vs, st1⟩ := pr
      rw [hp] at H1
      rcases vs with _ | ⟨v, vs⟩
      · exact False.elim H1
      · rcases v with a | a | a
        · exact False.elim H1
        · exact False.elim H1
        · obtain ⟨ho, hcall⟩ := H1
          obtain ⟨c1, b1, r, h1, c2, c3, c4⟩ := am_call_ok hcall
          have n87 : t ≠ 87 := fun z => by rw [z] at q5; exact absurd q5 (by decide +kernel)
          have n88 : t ≠ 88 := fun z => by rw [z] at q5; exact absurd q5 (by decide +kernel)
          exact s_callv F KK I Lo hd hp w (SS.2.1 t q6) (SS.2.2.1 t q6) c1 (IH t _ h r h1 q6 n87 n88 c3) c2 c4 q3 q5 (ho.trans q4)
  case invokestatic i =>
    unfold am_sk at hs
    rw [Bool.and_eq_true, beq_iff_eq] at hs
    obtain ⟨q1, q2⟩ := hs
    have e1 : nx = pc + 3 := q1
    subst e1
    have e2 : ln = 3 := by omega
    subst e2
    unfold am_i at H1
    dsimp only at H1
    by_cases z9 : t = 9999
    · subst z9
      rw [if_pos rfl] at H1
      have q2 : am_kf am_cll (am_ow k) i 9999 = true := q2
      obtain ⟨y, y0, y1, y2, y3⟩ := am_kf_mem q2
      have w := SS.2.2.2.2.2.1 y y0
      rw [y1, y2] at w
      rcases st with _ | ⟨v0, st⟩
      · exact False.elim H1
      · rcases v0 with a0 | a0 | a0
        · rcases st with _ | ⟨v1, st⟩
          · exact False.elim H1
          · rcases v1 with a1 | a1 | a1
            · rcases st with _ | ⟨v2, st⟩
              · exact False.elim H1
              · rcases v2 with a2 | a2 | a2
                · exact False.elim H1
                · exact False.elim H1
                · rcases st with _ | ⟨v3, st⟩
                  · exact False.elim H1
                  · rcases v3 with a3 | a3 | a3
                    · rcases st with _ | ⟨v4, st⟩
                      · exact False.elim H1
                      · rcases v4 with a4 | a4 | a4
                        · exact False.elim H1
                        · exact False.elim H1
                        · (dsimp only at H1; cases ha : am_al h a4 with | none => (rw [ha] at H1; exact False.elim H1) | some na => (cases ha2 : am_al h a2 with | none => (rw [ha, ha2] at H1; exact False.elim H1) | some nb => (rw [ha, ha2] at H1; exact s_copy F KK I Lo hd SS.2.2.2.2.2.2.2.2.2.1 w ha ha2 H1.1 H1.2.1 H1.2.2.1 H1.2.2.2)))
                    · exact False.elim H1
                    · exact False.elim H1
            · exact False.elim H1
            · exact False.elim H1
        · exact False.elim H1
        · exact False.elim H1
    · rw [if_neg z9] at H1
      rw [if_neg (by simpa using z9)] at q2
      simp only [Bool.and_eq_true, beq_iff_eq, decide_eq_true_eq] at q2
      obtain ⟨⟨⟨q2, q3⟩, q5⟩, q6⟩ := q2
      obtain ⟨y, y0, y1, y2, y3⟩ := am_kf_mem q2
      have w := SS.2.2.2.2.1 y y0
      rw [y1, y2, y3] at w
      cases hp : am_pop u st [] with
      | none => rw [hp] at H1; exact False.elim H1
      | some pr =>
        obtain ⟨vs, st1⟩ := pr
        rw [hp] at H1
        dsimp only at H1
        obtain ⟨c1, b1, r, h1, c2, c3, c4⟩ := am_call_ok H1
        by_cases zm : t = 87 ∨ t = 88
        · exact s_math F KK I Lo hd zm hp w (SS.2.1 t q6) (SS.2.2.1 t q6) c1 c3 c2 c4 q5
        · exact s_calls F KK I Lo hd hp w (SS.2.1 t q6) (SS.2.2.1 t q6) c1 (IH t _ h r h1 q6 (fun z => zm (.inl z)) (fun z => zm (.inr z)) c3) c2 c4 q3 q5
  case ireturn =>
    unfold am_sk at hs
    simp only [Bool.and_eq_true, beq_iff_eq, decide_eq_true_eq] at hs
    obtain ⟨q1, q2⟩ := hs
    have e1 : nx = pc + 1 := q1
    subst e1
    have e2 : ln = 1 := by omega
    subst e2
    rcases st with _ | ⟨v, st⟩
    · exact False.elim H1
    · rcases v with a | a | a
      · rcases st with _ | ⟨w, st⟩
        · exact ZZ.1 a h b pc ad H locs cells slots lsC H1.2 (so_h0 Lo) H1.1 I hd q2
        · exact False.elim H1
      · exact False.elim H1
      · exact False.elim H1
  case return_ =>
    unfold am_sk at hs
    simp only [Bool.and_eq_true, beq_iff_eq, decide_eq_true_eq] at hs
    obtain ⟨q1, q2⟩ := hs
    have e1 : nx = pc + 1 := q1
    subst e1
    have e2 : ln = 1 := by omega
    subst e2
    rcases st with _ | ⟨w, st⟩
    · exact ZZ.2 h b pc ad H locs cells slots lsC H1 I hd q2
    · exact False.elim H1
  all_goals exact False.elim H1
