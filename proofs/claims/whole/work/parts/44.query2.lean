/-! small queries -/
def snA (N : Int → Int) (f i : Int) : Int := if 0 ≤ f ∧ f < N 2 ∧ -1 ≤ i ∧ i < N (250 + 9 * f) then (if i < 0 then N (250 + 9 * f) else N (251 + 9 * f + i)) else -100001
theorem Q_sound {N : Int → Int} {h : am_H} {f i : Int} {P : Int → am_H → Prop} (O : OK N) (T : ST h N) (hf : am_ok (h 0 13 + 1)) (H : ∀ h1, QF N h h1 (snA N f i) → P (snA N f i) h1) : ∃ a_ h_, am_cd 2 107 [.inr (.inr 0), .inl f, .inl i] h (some (.inl a_)) h_ ∧ P a_ h_ := by
  obtain ⟨oL, oP, oF, oA, _⟩ := O
  have l0 := oF.1
  have bad : ¬ (0 ≤ f ∧ f < N 2 ∧ -1 ≤ i ∧ i < N (250 + 9 * f)) → am_ok (h 0 13 + 1) ∧ P (-100001) (am_up h 0 13 (h 0 13 + 1)) := fun k => by
    have e : snA N f i = -100001 := by unfold snA; rw [if_neg k]
    rw [e] at H
    exact ⟨hf, H _ (QF_e0 T (by decide))⟩
  refine e_At_sound ?_
  rw [T.2.2.1.1]
  refine ⟨fun c => ⟨fun c2 => bad (by omega), fun c2 => ⟨by omega, ?_⟩⟩, fun c => bad (by omega)⟩
  have k := T.2.2.1.2 f c.1 c.2
  have b := oF.2 f c.1 c.2
  rw [k.1]
  refine ⟨fun c3 => ?_, fun c3 => bad (by omega)⟩
  have r0 : snA N f i = if i < 0 then N (250 + 9 * f) else N (251 + 9 * f + i) := by unfold snA; rw [if_pos (by omega)]
  refine ⟨fun c4 => ⟨⟨by omega, by omega, by omega⟩, ?_⟩, fun c4 => ?_⟩
  · rw [if_neg (by omega)] at r0
    rw [r0] at H
    have := b.2 i c4 c3
    rw [k.2 i c4 c3]; exact H h (QF_same T (by omega))
  · rw [if_pos c4] at r0
    rw [r0] at H
    exact H h (QF_same T (by omega))
theorem Q_Msound {N : Int → Int} {h : am_H} {f i : Int} {P : Int → am_H → Prop} (O : OK N) (eN : h 57 = N) (hf : am_ok (h 56 3 + 1)) (H : ∀ h1, QM h h1 (snA N f i) → P (snA N f i) h1) : ∃ a_ h_, am_cd 3 164 [.inr (.inr 56), .inl f, .inl i] h (some (.inl a_)) h_ ∧ P a_ h_ := by
  obtain ⟨oL, oP, oF, oA, _⟩ := O
  have l0 := oF.1
  have bad : ¬ (0 ≤ f ∧ f < N 2 ∧ -1 ≤ i ∧ i < N (250 + 9 * f)) → am_ok (h 56 3 + 1) ∧ P (-100001) (am_up h 56 3 (h 56 3 + 1)) := fun k => by
    have e : snA N f i = -100001 := by unfold snA; rw [if_neg k]
    rw [e] at H
    exact ⟨hf, H _ (QM_e0 (by decide))⟩
  refine e_Mo_sound ?_
  rw [eN]
  refine ⟨by omega, fun c => ⟨⟨by omega, by omega, by omega⟩, ?_⟩, fun c => bad (by omega)⟩
  have b := oF.2 f c.1 (by omega)
  refine ⟨by omega, fun c3 => ?_, fun c3 => bad (by omega)⟩
  have r0 : snA N f i = if i < 0 then N (250 + 9 * f) else N (251 + 9 * f + i) := by unfold snA; rw [if_pos (by omega)]
  refine ⟨fun c4 => ⟨⟨by omega, by omega, by omega⟩, ?_⟩, fun c4 => ?_⟩
  · rw [if_neg (by omega)] at r0
    rw [r0] at H
    have := b.2 i c4 (by omega)
    exact H h (QM_same (by omega))
  · rw [if_pos c4] at r0
    rw [r0] at H
    exact H h (QM_same (by omega))
def isA (N : Int → Int) (a i : Int) : Int := if 0 ≤ a ∧ a < N 3 ∧ 0 ≤ i ∧ i ≤ 4 then N (520 + 5 * a + i) else -100001
theorem isA_lo {N : Int → Int} {a i : Int} (C : OA N) (F : OF N) (a0 : 0 ≤ a) (a1 : a < N 3) (i0 : 0 ≤ i) (i1 : i ≤ 4) : ¬ N (520 + 5 * a + i) < -99999 := by
  have k := C.2 a a0 a1
  rcases (show i = 0 ∨ i = 1 ∨ i = 2 ∨ i = 3 ∨ i = 4 by omega) with q | q | q | q | q <;> subst q
  · rw [show 520 + 5 * a + 0 = 520 + 5 * a by omega]; omega
  · rw [show 520 + 5 * a + 1 = 521 + 5 * a by omega]; omega
  · rw [show 520 + 5 * a + 2 = 522 + 5 * a by omega]; omega
  · rw [show 520 + 5 * a + 3 = 523 + 5 * a by omega]; omega
  · rw [show 520 + 5 * a + 4 = 524 + 5 * a by omega]; omega
theorem Q_answerIs {N : Int → Int} {h : am_H} {a i : Int} {P : Int → am_H → Prop} (O : OK N) (T : ST h N) (hf : am_ok (h 0 13 + 1)) (H : ∀ h1, QF N h h1 (isA N a i) → P (isA N a i) h1) : ∃ a_ h_, am_cd 2 108 [.inr (.inr 0), .inl a, .inl i] h (some (.inl a_)) h_ ∧ P a_ h_ := by
  obtain ⟨oL, oP, oF, oA, _⟩ := O
  have l0 := oA.1
  have bad : ¬ (0 ≤ a ∧ a < N 3 ∧ 0 ≤ i ∧ i ≤ 4) → am_ok (h 0 13 + 1) ∧ P (-100001) (am_up h 0 13 (h 0 13 + 1)) := fun k => by
    have e : isA N a i = -100001 := by unfold isA; rw [if_neg k]
    rw [e] at H
    exact ⟨hf, H _ (QF_e0 T (by decide))⟩
  refine e_At_answerIs ?_
  rw [T.2.2.2.1.1]
  refine ⟨fun c => ⟨fun c2 => bad (by omega), fun c2 => ⟨fun c3 => am_lifti (Nat.le_of_ble_eq_true rfl) (e_Answers_partOf ?_), fun c3 => bad (by omega)⟩⟩, fun c => bad (by omega)⟩
  have r0 : isA N a i = N (520 + 5 * a + i) := by unfold isA; rw [if_pos (by omega)]
  rw [r0] at H
  have go := H h (QF_same T (isA_lo oA oF c.1 c.2 c2 c3))
  have k := T.2.2.2.1.2 a c.1 c.2
  rw [k.1, k.2.1, k.2.2.1, k.2.2.2.1, k.2.2.2.2]
  refine ⟨fun q => ⟨by omega, ?_⟩, fun q0 => ⟨fun q => ⟨by omega, ?_⟩, fun q1 => ⟨fun q => ⟨by omega, ?_⟩, fun q2 => ⟨fun q => ⟨by omega, ?_⟩, fun q3 => ⟨by omega, ?_⟩⟩⟩⟩⟩
  · rw [show 520 + 5 * a + i = 520 + 5 * a by omega] at go; exact go
  · rw [show 520 + 5 * a + i = 521 + 5 * a by omega] at go; exact go
  · rw [show 520 + 5 * a + i = 522 + 5 * a by omega] at go; exact go
  · rw [show 520 + 5 * a + i = 523 + 5 * a by omega] at go; exact go
  · rw [show 520 + 5 * a + i = 524 + 5 * a by omega] at go; exact go
theorem Q_ManswerIs {N : Int → Int} {h : am_H} {a i : Int} {P : Int → am_H → Prop} (O : OK N) (eN : h 57 = N) (hf : am_ok (h 56 3 + 1)) (H : ∀ h1, QM h h1 (isA N a i) → P (isA N a i) h1) : ∃ a_ h_, am_cd 2 126 [.inr (.inr 56), .inl a, .inl i] h (some (.inl a_)) h_ ∧ P a_ h_ := by
  obtain ⟨oL, oP, oF, oA, _⟩ := O
  have l0 := oA.1
  have bad : ¬ (0 ≤ a ∧ a < N 3 ∧ 0 ≤ i ∧ i ≤ 4) → am_ok (h 56 3 + 1) ∧ P (-100001) (am_up h 56 3 (h 56 3 + 1)) := fun k => by
    have e : isA N a i = -100001 := by unfold isA; rw [if_neg k]
    rw [e] at H
    exact ⟨hf, H _ (QM_e0 (by decide))⟩
  refine e_Mo_answerIs ?_
  rw [eN]
  refine ⟨by omega, fun c => ⟨fun c2 => ⟨⟨by omega, by omega, by omega, by omega⟩, ?_⟩, fun c2 => bad (by omega)⟩, fun c => bad (by omega)⟩
  have r0 : isA N a i = N (520 + 5 * a + i) := by unfold isA; rw [if_pos (by omega)]
  rw [r0] at H
  exact H h (QM_same (isA_lo oA oF c.1 (by omega) c2.1 c2.2))
def wgA (N : Int → Int) (v t f d : Int) : Int := if 0 ≤ v ∧ v < N 0 ∧ 0 ≤ t ∧ t < 6 ∧ 0 ≤ f ∧ f < N 2 ∧ 0 ≤ d ∧ d ≤ 999 then ws N d v t f else -100001
