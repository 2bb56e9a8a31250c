/-! small queries -/
def snA (N : Int → Int) (f i : Int) : Int := if 0 ≤ f ∧ f < N 2 ∧ -1 ≤ i ∧ i < N (250 + 9 * f) then (if i < 0 then N (250 + 9 * f) else N (251 + 9 * f + i)) else -100001
theorem Q_sound {N : Int → Int} {h : am_H} {f i : Int} {P : Int → am_H → Prop} (O : OK N) (T : ST h N) (hf : am_ok (h 0 13 + 1)) (H : ∀ h1, QF N h h1 (snA N f i) → P (snA N f i) h1) : ∃ a_ h_, am_cd 2 107 [.inr (.inr 0), .inl f, .inl i] h (some (.inl a_)) h_ ∧ P a_ h_ := by
  obtain ⟨oL, oP, oF, oA, _⟩ := O
  have l0 := oF.1
  have bad : ¬ (0 ≤ f ∧ f < N 2 ∧ -1 ≤ i ∧ i < N (250 + 9 * f)) → am_ok (h 0 13 + 1) ∧ P (-100001) (am_up h 0 13 (h 0 13 + 1)) := fun k => by
    have e : snA N f i = -100001 := by unfold snA; rw [if_neg k]
    rw [e] at H
    exact ⟨hf, H _ (QF_e0 T (by decide))⟩
  refine e_At_sound ?_
  rw [T.2.2.1.1]
  refine ⟨fun c => ⟨fun c2 => bad (by omega), fun c2 => ⟨by omega, ?_⟩⟩, fun c => bad (by omega)⟩
  have k := T.2.2.1.2 f c.1 c.2
  have b := oF.2 f c.1 c.2
  rw [k.1]
  refine ⟨fun c3 => ?_, fun c3 => bad (by omega)⟩
  have r0 : snA N f i = if i < 0 then N (250 + 9 * f) else N (251 + 9 * f + i) := by unfold snA; rw [if_pos (by omega)]
  refine ⟨fun c4 => ⟨⟨by omega, by omega, by omega⟩, ?_⟩, fun c4 => ?_⟩
  · rw [if_neg (by omega)] at r0
    rw [r0] at H
    have := b.2 i c4 c3
    rw [k.2 i c4 c3]; exact H h (QF_same T (by omega))
  · rw [if_pos c4] at r0
    rw [r0] at H
    exact H h (QF_same T (by omega))
theorem Q_Msound {N : Int → Int} {h : am_H} {f i : Int} {P : Int → am_H → Prop} (O : OK N) (eN : h 57 = N) (hf : am_ok (h 56 3 + 1)) (H : ∀ h1, QM h h1 (snA N f i) → P (snA N f i) h1) : ∃ a_ h_, am_cd 3 164 [.inr (.inr 56), .inl f, .inl i] h (some (.inl a_)) h_ ∧ P a_ h_ := by
  obtain ⟨oL, oP, oF, oA, _⟩ := O
  have l0 := oF.1
  have bad : ¬ (0 ≤ f ∧ f < N 2 ∧ -1 ≤ i ∧ i < N (250 + 9 * f)) → am_ok (h 56 3 + 1) ∧ P (-100001) (am_up h 56 3 (h 56 3 + 1)) := fun k => by
    have e : snA N f i = -100001 := by unfold snA; rw [if_neg k]
    rw [e] at H
    exact ⟨hf, H _ (QM_e0 (by decide))⟩
  refine e_Mo_sound ?_
  rw [eN]
  refine ⟨by omega, fun c => ⟨⟨by omega, by omega, by omega⟩, ?_⟩, fun c => bad (by omega)⟩
  have b := oF.2 f c.1 (by omega)
  refine ⟨by omega, fun c3 => ?_, fun c3 => bad (by omega)⟩
  have r0 : snA N f i = if i < 0 then N (250 + 9 * f) else N (251 + 9 * f + i) := by unfold snA; rw [if_pos (by omega)]
  refine ⟨fun c4 => ⟨⟨by omega, by omega, by omega⟩, ?_⟩, fun c4 => ?_⟩
  · rw [if_neg (by omega)] at r0
    rw [r0] at H
    have := b.2 i c4 (by omega)
    exact H h (QM_same (by omega))
  · rw [if_pos c4] at r0
    rw [r0] at H
    exact H h (QM_same (by omega))
def isA (N : Int → Int) (a i : Int) : Int := if 0 ≤ a ∧ a < N 3 ∧ 0 ≤ i ∧ i ≤ 4 then N (520 + 5 * a + i) else -100001
theorem isA_lo {N : Int → Int} {a i : Int} (C : OA N) (F : OF N) (a0 : 0 ≤ a) (a1 : a < N 3) (i0 : 0 ≤ i) (i1 : i ≤ 4) : ¬ N (520 + 5 * a + i) < -99999 := by
  have k := C.2 a a0 a1
  rcases (show i = 0 ∨ i = 1 ∨ i = 2 ∨ i = 3 ∨ i = 4 by omega) with q | q | q | q | q <;> subst q
  · rw [show 520 + 5 * a + 0 = 520 + 5 * a by omega]; omega
  · rw [show 520 + 5 * a + 1 = 521 + 5 * a by omega]; omega
  · rw [show 520 + 5 * a + 2 = 522 + 5 * a by omega]; omega
  · rw [show 520 + 5 * a + 3 = 523 + 5 * a by omega]; omega
  · rw [show 520 + 5 * a + 4 = 524 + 5 * a by omega]; omega
theorem Q_answerIs {N : Int → Int} {h : am_H} {a i : Int} {P : Int → am_H → Prop} (O : OK N) (T : ST h N) (hf : am_ok (h 0 13 + 1)) (H : ∀ h1, QF N h h1 (isA N a i) → P (isA N a i) h1) : ∃ a_ h_, am_cd 2 108 [.inr (.inr 0), .inl a, .inl i] h (some (.inl a_)) h_ ∧ P a_ h_ := by
  obtain ⟨oL, oP, oF, oA, _⟩ := O
  have l0 := oA.1
  have bad : ¬ (0 ≤ a ∧ a < N 3 ∧ 0 ≤ i ∧ i ≤ 4) → am_ok (h 0 13 + 1) ∧ P (-100001) (am_up h 0 13 (h 0 13 + 1)) := fun k => by
    have e : isA N a i = -100001 := by unfold isA; rw [if_neg k]
    rw [e] at H
    exact ⟨hf, H _ (QF_e0 T (by decide))⟩
  refine e_At_answerIs ?_
  rw [T.2.2.2.1.1]
  refine ⟨fun c => ⟨fun c2 => bad (by omega), fun c2 => ⟨fun c3 => am_lifti (Nat.le_of_ble_eq_true rfl) (e_Answers_partOf ?_), fun c3 => bad (by omega)⟩⟩, fun c => bad (by omega)⟩
  have r0 : isA N a i = N (520 + 5 * a + i) := by unfold isA; rw [if_pos (by omega)]
  rw [r0] at H
  have go := H h (QF_same T (isA_lo oA oF c.1 c.2 c2 c3))
  have k := T.2.2.2.1.2 a c.1 c.2
  rw [k.1, k.2.1, k.2.2.1, k.2.2.2.1, k.2.2.2.2]
  refine ⟨fun q => ⟨by omega, ?_⟩, fun q0 => ⟨fun q => ⟨by omega, ?_⟩, fun q1 => ⟨fun q => ⟨by omega, ?_⟩, fun q2 => ⟨fun q => ⟨by omega, ?_⟩, fun q3 => ⟨by omega, ?_⟩⟩⟩⟩⟩
  · rw [show 520 + 5 * a + i = 520 + 5 * a by omega] at go; exact go
  · rw [show 520 + 5 * a + i = 521 + 5 * a by omega] at go; exact go
  · rw [show 520 + 5 * a + i = 522 + 5 * a by omega] at go; exact go
  · rw [show 520 + 5 * a + i = 523 + 5 * a by omega] at go; exact go
  · rw [show 520 + 5 * a + i = 524 + 5 * a by omega] at go; exact go
theorem Q_ManswerIs {N : Int → Int} {h : am_H} {a i : Int} {P : Int → am_H → Prop} (O : OK N) (eN : h 57 = N) (hf : am_ok (h 56 3 + 1)) (H : ∀ h1, QM h h1 (isA N a i) → P (isA N a i) h1) : ∃ a_ h_, am_cd 2 126 [.inr (.inr 56), .inl a, .inl i] h (some (.inl a_)) h_ ∧ P a_ h_ := by
  obtain ⟨oL, oP, oF, oA, _⟩ := O
  have l0 := oA.1
  have bad : ¬ (0 ≤ a ∧ a < N 3 ∧ 0 ≤ i ∧ i ≤ 4) → am_ok (h 56 3 + 1) ∧ P (-100001) (am_up h 56 3 (h 56 3 + 1)) := fun k => by
    have e : isA N a i = -100001 := by unfold isA; rw [if_neg k]
    rw [e] at H
    exact ⟨hf, H _ (QM_e0 (by decide))⟩
  refine e_Mo_answerIs ?_
  rw [eN]
  refine ⟨by omega, fun c => ⟨fun c2 => ⟨⟨by omega, by omega, by omega, by omega⟩, ?_⟩, fun c2 => bad (by omega)⟩, fun c => bad (by omega)⟩
  have r0 : isA N a i = N (520 + 5 * a + i) := by unfold isA; rw [if_pos (by omega)]
  rw [r0] at H
  exact H h (QM_same (isA_lo oA oF c.1 (by omega) c2.1 c2.2))
def wgA (N : Int → Int) (v t f d : Int) : Int := if 0 ≤ v ∧ v < N 0 ∧ 0 ≤ t ∧ t < 6 ∧ 0 ≤ f ∧ f < N 2 ∧ 0 ≤ d ∧ d ≤ 999 then ws N d v t f else -100001
theorem Q_weight {N : Int → Int} {h : am_H} {v t f d : Int} {P : Int → am_H → Prop} (O : OK N) (T : ST h N) (hf : am_ok (h 0 13 + 1)) (H : ∀ h1, QF N h h1 (wgA N v t f d) → P (wgA N v t f d) h1) : ∃ a_ h_, am_cd 4 186 [.inr (.inr 0), .inl v, .inl t, .inl f, .inl d] h (some (.inl a_)) h_ ∧ P a_ h_ := by
  obtain ⟨oL, oP, oF, oA, _⟩ := O
  have l0 := oF.1
  have bad : ¬ (0 ≤ v ∧ v < N 0 ∧ 0 ≤ t ∧ t < 6 ∧ 0 ≤ f ∧ f < N 2 ∧ 0 ≤ d ∧ d ≤ 999) → am_ok (h 0 13 + 1) ∧ P (-100001) (am_up h 0 13 (h 0 13 + 1)) := fun k => by
    have e : wgA N v t f d = -100001 := by unfold wgA; rw [if_neg k]
    rw [e] at H
    exact ⟨hf, H _ (QF_e0 T (by decide))⟩
  refine e_At_weight ?_
  rw [T.1.1, T.2.2.1.1]
  refine ⟨fun c => ⟨fun c2 => ⟨fun c3 => ⟨fun c4 => am_lifti (Nat.le_of_ble_eq_true rfl) (S_weightFor oP oF oA T.2.1 T.2.2.2.1 c3.1 (by omega) (fun h1 f1 => ?_)), fun c4 => bad (by omega)⟩, fun c3 => bad (by omega)⟩, fun c2 => bad (by omega)⟩, fun c => bad (by omega)⟩
  have r0 : wgA N v t f d = ws N d v t f := by unfold wgA; rw [if_pos (by omega)]
  have b := ws_bd (N := N) (d := d) (v := v) (t := t) (f := f) oP
  rw [r0] at H
  exact H h1 (QF_23 T f1 (by omega))
theorem Q_Mweight {N : Int → Int} {h : am_H} {v t f d : Int} {P : Int → am_H → Prop} (O : OK N) (eN : h 57 = N) (hf : am_ok (h 56 3 + 1)) (H : ∀ h1, QM h h1 (wgA N v t f d) → P (wgA N v t f d) h1) : ∃ a_ h_, am_cd 4 191 [.inr (.inr 56), .inl v, .inl t, .inl f, .inl d] h (some (.inl a_)) h_ ∧ P a_ h_ := by
  obtain ⟨oL, oP, oF, oA, _⟩ := O
  have l0 := oF.1
  have l1 := oL.1
  have l2 := oP.1
  have bad : ¬ (0 ≤ v ∧ v < N 0 ∧ 0 ≤ t ∧ t < 6 ∧ 0 ≤ f ∧ f < N 2 ∧ 0 ≤ d ∧ d ≤ 999) → am_ok (h 56 3 + 1) ∧ P (-100001) (am_up h 56 3 (h 56 3 + 1)) := fun k => by
    have e : wgA N v t f d = -100001 := by unfold wgA; rw [if_neg k]
    rw [e] at H
    exact ⟨hf, H _ (QM_e0 (by decide))⟩
  refine e_Mo_weight ?_
  rw [eN]
  refine ⟨by omega, fun c => ⟨fun c2 => ⟨by omega, fun c3 => ⟨fun c4 => am_liftv (Nat.le_of_ble_eq_true rfl) (S_Msettle oP oL oF oA eN (fun h1 f1 j1 w1 => ?_)), fun c4 => bad (by omega)⟩, fun c3 => bad (by omega)⟩, fun c2 => bad (by omega)⟩, fun c => bad (by omega)⟩
  have r0 : wgA N v t f d = ws N d v t f := by unfold wgA; rw [if_pos (by omega)]
  have b := ws_bd (N := N) (d := d) (v := v) (t := t) (f := f) oP
  rw [r0] at H
  refine am_lifti (Nat.le_of_ble_eq_true rfl) (S_MsumOf oP ((f1 57 (by decide) (by decide)).trans eN) c2.1 (by omega) (fun w w0 w1' => j1 w t w0 (by omega) c2.1 (by omega)) (H h1 ⟨fun p hp => f1 p (by omega) (by omega), ⟨by rw [f1 56 (by decide) (by decide)], by rw [f1 56 (by decide) (by decide)]⟩, by rw [f1 56 (by decide) (by decide), if_neg (by omega)]; omega⟩))
/-- is what this one was asked as under a kind -/
def und (k x : Int) : Prop := x = 0 ∨ x = k ∨ (x = 1 ∧ k = 3)
noncomputable def asA (N : Int → Int) (w x : Int) : Int := @ite _ (¬ (0 ≤ w ∧ w < N 1 ∧ 0 ≤ x ∧ x ≤ 3)) (Classical.propDecidable _) (-100001) (@ite _ (und (N (191 + 3 * w)) x) (Classical.propDecidable _) (wt N w) (-100004))
theorem S_isUnder {N : Int → Int} {h : am_H} {w x : Int} {P : Int → am_H → Prop} (oP : OP N) (R : PR h N) (w0 : 0 ≤ w) (w1 : w < N 1) (x0 : 0 ≤ x) (x1 : x ≤ 3) (H1 : und (N (191 + 3 * w)) x → P 1 h) (H0 : ¬ und (N (191 + 3 * w)) x → P 0 h) : ∃ a_ h_, am_cd 1 15 [.inr (.inr 7), .inl w, .inl x] h (some (.inl a_)) h_ ∧ P a_ h_ := by
  have l0 := oP.1
  have kb := (oP.2 w w0 w1).2.1
  have c1 : am_ct 2001 1 = 0 := by decide
  have c2 : am_ct 2001 2 = 0 := by decide
  have c3 : am_ct 2001 3 = 1 := by decide
  have z : ∀ x4, 0 ≤ x4 → (¬ und 0 x → P 0 h) → (und 0 x → P 1 h) → am_x (am_cd 0) 15 (am_qi P) 0 10 [none, none, some (.inl x), some (.inl 0), some (.inl x4)] [] h := fun x4 _ n0 n1 => g_Asked_isUnder_10 ⟨fun _ => ⟨fun q => n0 (by unfold und; omega), fun q => n1 (by unfold und; omega)⟩, fun _ => ⟨fun q => n1 (by unfold und; omega), fun q => ⟨fun q2 => absurd rfl q2, fun _ => n0 (by unfold und; omega)⟩⟩⟩
  refine e_Asked_isUnder ⟨by omega, ?_⟩
  rw [(R.2 w w0 w1).2.1]
  generalize N (191 + 3 * w) = k at *
  rcases (show k = 0 ∨ k = 1 ∨ k = 2 ∨ k = 3 by omega) with q | q | q | q <;> subst q
  · exact z 0 (by omega) H0 H1
  · refine g_Asked_isUnder_10 ⟨fun q => by omega, fun _ => ⟨fun q => H1 (by unfold und; omega), fun q => ⟨fun _ => ⟨⟨by omega, by omega⟩, ?_⟩, fun q2 => by omega⟩⟩⟩
    rw [c1]
    exact z _ (by omega) (fun y => H0 (by unfold und at *; omega)) (fun y => H1 (by unfold und at *; omega))
  · refine g_Asked_isUnder_10 ⟨fun q => by omega, fun _ => ⟨fun q => H1 (by unfold und; omega), fun q => ⟨fun _ => ⟨⟨by omega, by omega⟩, ?_⟩, fun q2 => by omega⟩⟩⟩
    rw [c2]
    exact z _ (by omega) (fun y => H0 (by unfold und at *; omega)) (fun y => H1 (by unfold und at *; omega))
  · refine g_Asked_isUnder_10 ⟨fun q => by omega, fun _ => ⟨fun q => H1 (by unfold und; omega), fun q => ⟨fun _ => ⟨⟨by omega, by omega⟩, ?_⟩, fun q2 => by omega⟩⟩⟩
    rw [c3]
    refine g_Asked_isUnder_10 ⟨fun q => by omega, fun _ => ⟨fun q => H1 (by unfold und; omega), fun q => ⟨fun _ => ⟨⟨by omega, by omega⟩, ?_⟩, fun q2 => by omega⟩⟩⟩
    rw [c1]
    exact z _ (by omega) (fun y => H0 (by unfold und at *; omega)) (fun y => H1 (by unfold und at *; omega))
theorem Q_as {N : Int → Int} {h : am_H} {w x : Int} {P : Int → am_H → Prop} (O : OK N) (T : ST h N) (hf : am_ok (h 0 13 + 1)) (H : ∀ h1, QF N h h1 (asA N w x) → P (asA N w x) h1) : ∃ a_ h_, am_cd 2 106 [.inr (.inr 0), .inl w, .inl x] h (some (.inl a_)) h_ ∧ P a_ h_ := by
  obtain ⟨oL, oP, oF, oA, _⟩ := O
  have bad : ¬ (0 ≤ w ∧ w < N 1 ∧ 0 ≤ x ∧ x ≤ 3) → am_ok (h 0 13 + 1) ∧ P (-100001) (am_up h 0 13 (h 0 13 + 1)) := fun k => by
    have e : asA N w x = -100001 := by unfold asA; rw [if_pos k]
    rw [e] at H
    exact ⟨hf, H _ (QF_e0 T (by decide))⟩
  refine e_At_as ?_
  rw [T.2.1.1]
  refine ⟨fun c => ⟨fun c2 => am_lifti (Nat.le_of_ble_eq_true rfl) (S_isUnder oP T.2.1 c.1 c.2 c2.1 c2.2 (fun k => ⟨fun q => by omega, fun _ => ?_⟩) (fun k => ⟨fun _ => ?_, fun q => absurd rfl q⟩)), fun c2 => bad (by omega)⟩, fun c => bad (by omega)⟩
  · have r0 : asA N w x = wt N w := by unfold asA; rw [if_neg (by omega), if_pos k]
    have b := wt_bd oP c.1 c.2
    rw [r0] at H
    exact am_lifti (Nat.le_of_ble_eq_true rfl) (S_weightOf oP T.2.1 c.1 c.2 (H h (QF_same T (by omega))))
  · have r0 : asA N w x = -100004 := by unfold asA; rw [if_neg (by omega), if_neg k]
    rw [r0] at H
    exact ⟨hf, H _ (QF_e0 T (by decide))⟩
theorem Q_Mas {N : Int → Int} {h : am_H} {w x : Int} {P : Int → am_H → Prop} (O : OK N) (eN : h 57 = N) (hf : am_ok (h 56 3 + 1)) (H : ∀ h1, QM h h1 (asA N w x) → P (asA N w x) h1) : ∃ a_ h_, am_cd 2 122 [.inr (.inr 56), .inl w, .inl x] h (some (.inl a_)) h_ ∧ P a_ h_ := by
  obtain ⟨oL, oP, oF, oA, _⟩ := O
  have l0 := oP.1
  have bad : ¬ (0 ≤ w ∧ w < N 1 ∧ 0 ≤ x ∧ x ≤ 3) → am_ok (h 56 3 + 1) ∧ P (-100001) (am_up h 56 3 (h 56 3 + 1)) := fun k => by
    have e : asA N w x = -100001 := by unfold asA; rw [if_pos k]
    rw [e] at H
    exact ⟨hf, H _ (QM_e0 (by decide))⟩
  refine e_Mo_as ?_
  rw [eN]
  refine ⟨by omega, fun c => ⟨fun c2 => ⟨⟨by omega, by omega, by omega, by omega⟩, ?_⟩, fun c2 => bad (by omega)⟩, fun c => bad (by omega)⟩
  have yes : und (N (191 + 3 * w)) x → ∃ a h1, am_cd 1 78 [.inr (.inr 56), .inl w] h (some (.inl a)) h1 ∧ P a h1 := fun k => by
    have r0 : asA N w x = wt N w := by unfold asA; rw [if_neg (by omega), if_pos k]
    have b := wt_bd oP c.1 (show w < N 1 by omega)
    rw [r0] at H
    exact am_lifti (Nat.le_of_ble_eq_true rfl) (S_MweightOf oP eN c.1 (by omega) (H h (QM_same (by omega))))
  have no : ¬ und (N (191 + 3 * w)) x → am_ok (h 56 3 + 1) ∧ P (-100004) (am_up h 56 3 (h 56 3 + 1)) := fun k => by
    have r0 : asA N w x = -100004 := by unfold asA; rw [if_neg (by omega), if_neg k]
    rw [r0] at H
    exact ⟨hf, H _ (QM_e0 (by decide))⟩
  exact ⟨fun q => yes (.inl q), fun q => ⟨fun q2 => yes (.inr (.inl q2)), fun q2 => ⟨fun q3 => no (by unfold und; omega), fun q3 => ⟨fun q4 => no (by unfold und; omega), fun q4 => yes (.inr (.inr ⟨q3, q4⟩))⟩⟩⟩⟩
