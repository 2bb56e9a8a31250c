/-! queries: what a question leaves alone, on both sides -/
def QF (N : Int → Int) (h h1 : am_H) (a : Int) : Prop := (∀ p, (25 ≤ p ∧ p ≤ 30) ∨ (47 ≤ p ∧ p ≠ 55) → h1 p = h p) ∧ h1 24 1 = h 24 1 ∧ ST h1 N ∧ h1 0 13 = h 0 13 + (if a < -99999 then 1 else 0)
def QM (h h1 : am_H) (a : Int) : Prop := (∀ p, p < 56 ∨ p = 57 ∨ p = 58 ∨ (63 ≤ p ∧ p ≤ 65) ∨ (76 ≤ p ∧ p ≤ 78) ∨ 79 < p → h1 p = h p) ∧ (h1 56 2 = h 56 2 ∧ h1 56 14 = h 56 14) ∧ h1 56 3 = h 56 3 + (if a < -99999 then 1 else 0)
theorem QF_same {N : Int → Int} {h : am_H} {a : Int} (T : ST h N) (q : ¬ a < -99999) : QF N h h a := ⟨fun _ _ => rfl, rfl, T, by rw [if_neg q]; omega⟩
theorem QM_same {h : am_H} {a : Int} (q : ¬ a < -99999) : QM h h a := ⟨fun _ _ => rfl, ⟨rfl, rfl⟩, by rw [if_neg q]; omega⟩
theorem ST_13 {N : Int → Int} {h : am_H} {v : Int} (T : ST h N) : ST (am_up h 0 13 v) N := by
  have u : ∀ p, p ≠ 0 → am_up h 0 13 v p = h p := fun p hp => up_ne hp
  exact ST_of (by rw [up_same, if_neg (by decide)]) (u _ (by decide)) (u _ (by decide)) (u _ (by decide)) (u _ (by decide)) (u _ (by decide)) (u _ (by decide)) (u _ (by decide)) (u _ (by decide)) (u _ (by decide)) (by rw [u 11 (by decide)]) (u _ (by decide)) (u _ (by decide)) (MR_of (u _ (by decide))) (u _ (by decide)) (u _ (by decide)) (u _ (by decide)) (u _ (by decide)) (u _ (by decide)) (u _ (by decide)) T
theorem QF_err {N : Int → Int} {h h1 : am_H} {a b : Int} (Q : QF N h h1 b) (nb : ¬ b < -99999) (q : a < -99999) : QF N h (am_up h1 0 13 (h1 0 13 + 1)) a := by
  refine ⟨fun p hp => by rw [up_ne (by omega)]; exact Q.1 p hp, by rw [up_ne (by decide)]; exact Q.2.1, ST_13 Q.2.2.1, ?_⟩
  have := Q.2.2.2
  rw [if_neg nb] at this
  rw [up_same, if_pos rfl, if_pos q]; omega
theorem QM_err {h h1 : am_H} {a b : Int} (Q : QM h h1 b) (nb : ¬ b < -99999) (q : a < -99999) : QM h (am_up h1 56 3 (h1 56 3 + 1)) a := by
  refine ⟨fun p hp => by rw [up_ne (by omega)]; exact Q.1 p hp, ⟨by rw [up_same, if_neg (by decide)]; exact Q.2.1.1, by rw [up_same, if_neg (by decide)]; exact Q.2.1.2⟩, ?_⟩
  have := Q.2.2
  rw [if_neg nb] at this
  rw [up_same, if_pos rfl, if_pos q]; omega
theorem QF_e0 {N : Int → Int} {h : am_H} {a : Int} (T : ST h N) (q : a < -99999) : QF N h (am_up h 0 13 (h 0 13 + 1)) a := QF_err (QF_same (a := 0) T (by decide)) (by decide) q
theorem QM_e0 {h : am_H} {a : Int} (q : a < -99999) : QM h (am_up h 56 3 (h 56 3 + 1)) a := QM_err (QM_same (a := 0) (by decide)) (by decide) q
theorem QF_23 {N : Int → Int} {h h1 : am_H} {a : Int} (T : ST h N) (f : ∀ p, p ≠ 23 → h1 p = h p) (q : ¬ a < -99999) : QF N h h1 a := by
  refine ⟨fun p hp => f p (by omega), by rw [f 24 (by decide)], ST_of (by rw [f 0 (by decide)]) (f _ (by decide)) (f _ (by decide)) (f _ (by decide)) (f _ (by decide)) (f _ (by decide)) (f _ (by decide)) (f _ (by decide)) (f _ (by decide)) (f _ (by decide)) (by rw [f 11 (by decide)]) (f _ (by decide)) (f _ (by decide)) (MR_of (f _ (by decide))) (f _ (by decide)) (f _ (by decide)) (f _ (by decide)) (f _ (by decide)) (f _ (by decide)) (f _ (by decide)) T, ?_⟩
  rw [f 0 (by decide), if_neg q]; omega
/-- the answer of says -/
def sas (N : Int → Int) (v t d : Int) : Int := if 0 ≤ v ∧ v < N 0 ∧ 0 ≤ t ∧ t < 6 ∧ 0 ≤ d ∧ d ≤ 999 then (if sd N d v t < 0 then -100006 else sd N d v t) else -100001
theorem Q_says {N : Int → Int} {h : am_H} {v t d : Int} {P : Int → am_H → Prop} (O : OK N) (T : ST h N) (hf : am_ok (h 0 13 + 1)) (H : ∀ h1, QF N h h1 (sas N v t d) → P (sas N v t d) h1) : ∃ a_ h_, am_cd 4 185 [.inr (.inr 0), .inl v, .inl t, .inl d] h (some (.inl a_)) h_ ∧ P a_ h_ := by
  obtain ⟨oL, oP, oF, oA, _⟩ := O
  have bad : ¬ (0 ≤ v ∧ v < N 0 ∧ 0 ≤ t ∧ t < 6 ∧ 0 ≤ d ∧ d ≤ 999) → am_ok (h 0 13 + 1) ∧ P (-100001) (am_up h 0 13 (h 0 13 + 1)) := fun k => by
    have e : sas N v t d = -100001 := by unfold sas; rw [if_neg k]
    rw [e] at H
    exact ⟨hf, H _ (QF_e0 T (by decide))⟩
  refine e_At_says ?_
  rw [T.1.1]
  refine ⟨fun c => ⟨fun c2 => ⟨fun c3 => am_lifti (Nat.le_of_ble_eq_true rfl) (S_saidBy oP oF oA T.2.1 T.2.2.2.1 (fun h1 f1 => ?_)), fun c3 => bad (by omega)⟩, fun c2 => bad (by omega)⟩, fun c => bad (by omega)⟩
  have sb := sd_bd (N := N) (d := d) (v := v) (t := t) oF.1.1
  have r0 : sas N v t d = if sd N d v t < 0 then -100006 else sd N d v t := by unfold sas; rw [if_pos (by omega)]
  refine ⟨fun k => ?_, fun k => ?_⟩
  · rw [if_neg (by omega)] at r0
    rw [r0] at H
    exact H h1 (QF_23 T f1 (by omega))
  · rw [if_pos (by omega)] at r0
    rw [r0] at H
    exact ⟨by rw [f1 0 (by decide)]; exact hf, H _ (QF_err (QF_23 (a := 0) T f1 (by decide)) (by decide) (by decide))⟩
theorem Q_Msays {N : Int → Int} {h : am_H} {v t d : Int} {P : Int → am_H → Prop} (O : OK N) (eN : h 57 = N) (hf : am_ok (h 56 3 + 1)) (H : ∀ h1, QM h h1 (sas N v t d) → P (sas N v t d) h1) : ∃ a_ h_, am_cd 4 190 [.inr (.inr 56), .inl v, .inl t, .inl d] h (some (.inl a_)) h_ ∧ P a_ h_ := by
  obtain ⟨oL, oP, oF, oA, _⟩ := O
  have l0 := oL.1
  have bad : ¬ (0 ≤ v ∧ v < N 0 ∧ 0 ≤ t ∧ t < 6 ∧ 0 ≤ d ∧ d ≤ 999) → am_ok (h 56 3 + 1) ∧ P (-100001) (am_up h 56 3 (h 56 3 + 1)) := fun k => by
    have e : sas N v t d = -100001 := by unfold sas; rw [if_neg k]
    rw [e] at H
    exact ⟨hf, H _ (QM_e0 (by decide))⟩
  refine e_Mo_says ?_
  rw [eN]
  refine ⟨by omega, fun c => ⟨fun c2 => ⟨fun c3 => am_liftv (Nat.le_of_ble_eq_true rfl) (S_Msettle oP oL oF oA eN (fun h1 f1 _ w1 => ⟨⟨by omega, by omega, by omega⟩, ?_⟩)), fun c3 => bad (by omega)⟩, fun c2 => bad (by omega)⟩, fun c => bad (by omega)⟩
  have sb := sd_bd (N := N) (d := d) (v := v) (t := t) oF.1.1
  have r0 : sas N v t d = if sd N d v t < 0 then -100006 else sd N d v t := by unfold sas; rw [if_pos (by omega)]
  have qm : ∀ a, ¬ a < -99999 → QM h h1 a := fun a q => ⟨fun p hp => f1 p (by omega) (by omega), ⟨by rw [f1 56 (by decide) (by decide)], by rw [f1 56 (by decide) (by decide)]⟩, by rw [f1 56 (by decide) (by decide), if_neg q]; omega⟩
  rw [w1 v t c.1 (by omega) c2.1 (by omega)]
  refine ⟨fun k => ?_, fun k => ?_⟩
  · rw [if_neg (by omega)] at r0
    rw [r0] at H
    exact H h1 (qm _ (by omega))
  · rw [if_pos (by omega)] at r0
    rw [r0] at H
    exact ⟨by rw [f1 56 (by decide) (by decide)]; exact hf, H _ (QM_err (qm 0 (by decide)) (by decide) (by decide))⟩
/-- the answer of far -/
def frA (N : Int → Int) (f g : Int) : Int := if 0 ≤ f ∧ f < N 2 ∧ 0 ≤ g ∧ g < N 2 then far N f g else -100001
theorem Q_far {N : Int → Int} {h : am_H} {f g : Int} {P : Int → am_H → Prop} (O : OK N) (T : ST h N) (hf : am_ok (h 0 13 + 1)) (H : ∀ h1, QF N h h1 (frA N f g) → P (frA N f g) h1) : ∃ a_ h_, am_cd 4 184 [.inr (.inr 0), .inl f, .inl g] h (some (.inl a_)) h_ ∧ P a_ h_ := by
  obtain ⟨oL, oP, oF, oA, _⟩ := O
  have bad : ¬ (0 ≤ f ∧ f < N 2 ∧ 0 ≤ g ∧ g < N 2) → am_ok (h 0 13 + 1) ∧ P (-100001) (am_up h 0 13 (h 0 13 + 1)) := fun k => by
    have e : frA N f g = -100001 := by unfold frA; rw [if_neg k]
    rw [e] at H
    exact ⟨hf, H _ (QF_e0 T (by decide))⟩
  refine e_At_far ?_
  rw [T.2.2.1.1]
  refine ⟨fun c => ⟨fun c2 => am_lifti (Nat.le_of_ble_eq_true rfl) (S_apart oF c.1 c.2 c2.1 c2.2 T.2.2.1 T.2.2.2.2.1 (fun h1 f1 m1 => ?_)), fun c2 => bad (by omega)⟩, fun c => bad (by omega)⟩
  have r0 : frA N f g = far N f g := by unfold frA; rw [if_pos (by omega)]
  have fb := far_bd oF c.1 c.2 c2.1 c2.2
  rw [r0] at H
  have u : ∀ p, p < 15 ∨ 16 < p → h1 p = h p := fun p hp => f1 p (by omega) (by omega)
  refine H h1 ⟨fun p hp => u p (by omega), by rw [u 24 (by decide)], ST_of (by rw [u 0 (by decide)]) (u _ (by decide)) (u _ (by decide)) (u _ (by decide)) (u _ (by decide)) (u _ (by decide)) (u _ (by decide)) (u _ (by decide)) (u _ (by decide)) (u _ (by decide)) (by rw [u 11 (by decide)]) (u _ (by decide)) (u _ (by decide)) (fun _ => m1) (u _ (by decide)) (u _ (by decide)) (u _ (by decide)) (u _ (by decide)) (u _ (by decide)) (u _ (by decide)) T, ?_⟩
  rw [u 0 (by decide), if_neg (by omega)]; omega
theorem Q_Mfar {N : Int → Int} {h : am_H} {f g : Int} {P : Int → am_H → Prop} (O : OK N) (eN : h 57 = N) (hf : am_ok (h 56 3 + 1)) (H : ∀ h1, QM h h1 (frA N f g) → P (frA N f g) h1) : ∃ a_ h_, am_cd 3 165 [.inr (.inr 56), .inl f, .inl g] h (some (.inl a_)) h_ ∧ P a_ h_ := by
  obtain ⟨oL, oP, oF, oA, _⟩ := O
  have l0 := oF.1
  have bad : ¬ (0 ≤ f ∧ f < N 2 ∧ 0 ≤ g ∧ g < N 2) → am_ok (h 56 3 + 1) ∧ P (-100001) (am_up h 56 3 (h 56 3 + 1)) := fun k => by
    have e : frA N f g = -100001 := by unfold frA; rw [if_neg k]
    rw [e] at H
    exact ⟨hf, H _ (QM_e0 (by decide))⟩
  refine e_Mo_far ?_
  rw [eN]
  refine ⟨by omega, fun c => ⟨fun c2 => am_lifti (Nat.le_of_ble_eq_true rfl) (S_MfarOf oF eN c.1 (by omega) c2.1 (by omega) (fun h1 f1 => ?_)), fun c2 => bad (by omega)⟩, fun c => bad (by omega)⟩
  have r0 : frA N f g = far N f g := by unfold frA; rw [if_pos (by omega)]
  have fb := far_bd oF c.1 (show f < N 2 by omega) c2.1 (show g < N 2 by omega)
  rw [r0] at H
  exact H h1 ⟨fun p hp => f1 p (by omega), ⟨by rw [f1 56 (by decide)], by rw [f1 56 (by decide)]⟩, by rw [f1 56 (by decide), if_neg (by omega)]; omega⟩
