/-! what a form becomes; dialects -/
theorem QF_15 {N : Int → Int} {h h1 : am_H} {a : Int} (T : ST h N) (m1 : MR h1 N) (f : ∀ p, p ≠ 0 → p ≠ 6 → p ≠ 15 → p ≠ 16 → p ≠ 23 → (p < 31 ∨ (46 < p ∧ p ≠ 55)) → h1 p = h p) (j : ∀ j, j ≠ 13 → h1 0 j = h 0 j) (e : h1 0 13 = h 0 13 + (if a < -99999 then 1 else 0)) : QF N h h1 a := by
  have u : ∀ p, (0 < p ∧ p < 6) ∨ (6 < p ∧ p < 15) ∨ (16 < p ∧ p < 23) ∨ (23 < p ∧ p < 31) → h1 p = h p := fun p hp => f p (by omega) (by omega) (by omega) (by omega) (by omega) (by omega)
  exact ⟨fun p hp => f p (by omega) (by omega) (by omega) (by omega) (by omega) (by omega), by rw [u 24 (by decide)], ST_of (j 12 (by decide)) (u _ (by decide)) (u _ (by decide)) (u _ (by decide)) (u _ (by decide)) (u _ (by decide)) (u _ (by decide)) (u _ (by decide)) (u _ (by decide)) (u _ (by decide)) (by rw [u 11 (by decide)]) (u _ (by decide)) (u _ (by decide)) (fun _ => m1) (u _ (by decide)) (u _ (by decide)) (u _ (by decide)) (u _ (by decide)) (u _ (by decide)) (u _ (by decide)) T, e⟩
noncomputable def dlA (N : Int → Int) (k w : Int) : Int :=
  if 1 ≤ k ∧ k ≤ 4 ∧ -1 ≤ w ∧ w < N 0 then (if N 0 = 0 then -100006 else if 10 < N 0 then -100003 else if w < 0 then (opt (dst N (N 4)) k (N 0).toNat 0 0 (fun _ => 0)).1 else (opt (dst N (N 4)) k (N 0).toNat 0 0 (fun _ => 0)).2 w) else -100001
def bcA (N : Int → Int) (T : Int → Int → Int) (m f t i : Int) : Int :=
  if 0 ≤ f ∧ f < N 2 ∧ 0 ≤ t ∧ t < 4 ∧ -1 ≤ i ∧ i < (rwn T (N (250 + 9 * f)) (snd N f) m.toNat).1 then (if i < 0 then (rwn T (N (250 + 9 * f)) (snd N f) m.toNat).1 else (rwn T (N (250 + 9 * f)) (snd N f) m.toNat).2 i) else -100001
theorem rw_ok {N : Int → Int} {T : Int → Int → Int} {m f : Int} (oF : OF N) (f0 : 0 ≤ f) (f1 : f < N 2) (ot : OT T m) (m0 : 0 ≤ m) : 0 ≤ (rwn T (N (250 + 9 * f)) (snd N f) m.toNat).1 ∧ (rwn T (N (250 + 9 * f)) (snd N f) m.toNat).1 ≤ 8 ∧ ∀ i, 0 ≤ i → i < (rwn T (N (250 + 9 * f)) (snd N f) m.toNat).1 → 0 ≤ (rwn T (N (250 + 9 * f)) (snd N f) m.toNat).2 i := by
  have b := oF.2 f f0 f1
  have r := rwn_rng (x := snd N f) ot (by omega) (fun i i0 i1 => b.2 i i0 i1) m.toNat (by omega)
  exact ⟨r.1, by omega, fun i i0 i1 => (r.2.2 i i0 i1).1⟩
theorem Q_becomes {N : Int → Int} {h : am_H} {f t i m : Int} {T : Int → Int → Int} {P : Int → am_H → Prop} (O : OK N) (S : ST h N) (tx : 0 ≤ t → t < 4 → TC h t m T ∧ OT T m ∧ 0 ≤ m ∧ m ≤ 12) (hf : am_ok (h 0 13 + 1)) (H : ∀ h1, QF N h h1 (bcA N T m f t i) → P (bcA N T m f t i) h1) : ∃ a_ h_, am_cd 4 187 [.inr (.inr 0), .inl f, .inl t, .inl i] h (some (.inl a_)) h_ ∧ P a_ h_ := by
  obtain ⟨oL, oP, oF, oA, _⟩ := O
  have ev : ¬ (0 ≤ f ∧ f < N 2 ∧ 0 ≤ t ∧ t < 4 ∧ -1 ≤ i ∧ i < (rwn T (N (250 + 9 * f)) (snd N f) m.toNat).1) → bcA N T m f t i = -100001 := fun k => by unfold bcA; rw [if_neg k]
  have bad : ¬ (0 ≤ f ∧ f < N 2 ∧ 0 ≤ t ∧ t < 4) → am_ok (h 0 13 + 1) ∧ P (-100001) (am_up h 0 13 (h 0 13 + 1)) := fun k => by
    rw [ev (fun y => k ⟨y.1, y.2.1, y.2.2.1, y.2.2.2.1⟩)] at H
    exact ⟨hf, H _ (QF_e0 S (by decide))⟩
  refine e_At_becomes ?_
  rw [S.2.2.1.1]
  refine ⟨fun c => ⟨fun c2 => ?_, fun c2 => bad (by omega)⟩, fun c => bad (by omega)⟩
  obtain ⟨tc, ot, m0, m1⟩ := tx c2.1 c2.2
  have rb := rw_ok (T := T) (m := m) oF c.1 c.2 ot m0
  refine am_lifti (Nat.le_of_ble_eq_true rfl) (S_turn oF S.2.2.1 c.1 c.2 tc ot c2.1 c2.2 m0 m1 (fun h1 f1 g1 w1 => ?_))
  have q : ∀ a, ¬ a < -99999 → QF N h h1 a := fun a na => by
    have u : ∀ p, p ≠ 24 → p < 31 → h1 p = h p := fun p p1 p2 => f1 p p1 (by omega)
    exact ⟨fun p hp => f1 p (by omega) (by omega), g1 1 (by decide), ST_of (by rw [u 0 (by decide) (by decide)]) (u _ (by decide) (by decide)) (u _ (by decide) (by decide)) (u _ (by decide) (by decide)) (u _ (by decide) (by decide)) (u _ (by decide) (by decide)) (u _ (by decide) (by decide)) (u _ (by decide) (by decide)) (u _ (by decide) (by decide)) (u _ (by decide) (by decide)) (by rw [u 11 (by decide) (by decide)]) (u _ (by decide) (by decide)) (u _ (by decide) (by decide)) (MR_of (u _ (by decide) (by decide))) (u _ (by decide) (by decide)) (u _ (by decide) (by decide)) (u _ (by decide) (by decide)) (u _ (by decide) (by decide)) (u _ (by decide) (by decide)) (u _ (by decide) (by decide)) S, by rw [u 0 (by decide) (by decide), if_neg na]; omega⟩
  have e0 : h1 0 13 = h 0 13 := by rw [f1 0 (by decide) (by decide)]
  have no : ¬ (-1 ≤ i ∧ i < (rwn T (N (250 + 9 * f)) (snd N f) m.toNat).1) → am_ok (h1 0 13 + 1) ∧ P (-100001) (am_up h1 0 13 (h1 0 13 + 1)) := fun k => by
    rw [ev (fun y => k y.2.2.2.2)] at H
    exact ⟨by rw [e0]; exact hf, H _ (QF_err (q 0 (by decide)) (by decide) (by decide))⟩
  refine ⟨fun c3 => no (by omega), fun c3 => ⟨fun c4 => ?_, fun c4 => no (by omega)⟩⟩
  have r0 : bcA N T m f t i = if i < 0 then (rwn T (N (250 + 9 * f)) (snd N f) m.toNat).1 else (rwn T (N (250 + 9 * f)) (snd N f) m.toNat).2 i := by unfold bcA; rw [if_pos ⟨c.1, c.2, c2.1, c2.2, c3, c4⟩]
  refine ⟨fun c5 => ⟨by omega, ?_⟩, fun c5 => ?_⟩
  · rw [if_neg (by omega)] at r0
    rw [r0] at H
    have := rb.2.2 i c5 c4
    rw [w1 i c5 c4]
    exact H h1 (q _ (by omega))
  · rw [if_pos c5] at r0
    rw [r0] at H
    exact H h1 (q _ (by omega))
theorem Q_Mbecomes {N : Int → Int} {h : am_H} {f t i m : Int} {T : Int → Int → Int} {P : Int → am_H → Prop} (O : OK N) (eN : h 57 = N) (tx : 0 ≤ t → t < 4 → TM h t m T ∧ OT T m ∧ 0 ≤ m ∧ m ≤ 12) (hf : am_ok (h 56 3 + 1)) (H : ∀ h1, QM h h1 (bcA N T m f t i) → P (bcA N T m f t i) h1) : ∃ a_ h_, am_cd 4 193 [.inr (.inr 56), .inl f, .inl t, .inl i] h (some (.inl a_)) h_ ∧ P a_ h_ := by
  obtain ⟨oL, oP, oF, oA, _⟩ := O
  have l0 := oF.1
  have ev : ¬ (0 ≤ f ∧ f < N 2 ∧ 0 ≤ t ∧ t < 4 ∧ -1 ≤ i ∧ i < (rwn T (N (250 + 9 * f)) (snd N f) m.toNat).1) → bcA N T m f t i = -100001 := fun k => by unfold bcA; rw [if_neg k]
  have bad : ¬ (0 ≤ f ∧ f < N 2 ∧ 0 ≤ t ∧ t < 4 ∧ -1 ≤ i) → am_ok (h 56 3 + 1) ∧ P (-100001) (am_up h 56 3 (h 56 3 + 1)) := fun k => by
    rw [ev (fun y => k ⟨y.1, y.2.1, y.2.2.1, y.2.2.2.1, y.2.2.2.2.1⟩)] at H
    exact ⟨hf, H _ (QM_e0 (by decide))⟩
  refine e_Mo_becomes ?_
  rw [eN]
  refine ⟨by omega, fun c => ⟨fun c2 => ⟨fun c3 => ?_, fun c3 => bad (by omega)⟩, fun c2 => bad (by omega)⟩, fun c => bad (by omega)⟩
  obtain ⟨tm, ot, m0, m1⟩ := tx c2.1 (by omega)
  have rb := rw_ok (T := T) (m := m) oF c.1 (by omega) ot m0
  refine am_liftv (Nat.le_of_ble_eq_true rfl) (S_Mbecome oF eN c.1 (by omega) tm ot c2.1 (by omega) m0 m1 (fun h1 f1 g1 e1 w1 => ?_))
  have q : ∀ a, ¬ a < -99999 → QM h h1 a := fun a na => QM_g (fun p p1 p2 => f1 p p1 (by omega) (by omega)) (fun j _ j2 => g1 j (by omega)) (by rw [g1 3 (by decide), if_neg na]; omega)
  have e3 : h1 56 3 = h 56 3 := g1 3 (by decide)
  rw [e1]
  refine ⟨fun c5 => ⟨fun c6 => ?_, fun c6 => ⟨by omega, ?_⟩⟩, fun c5 => ?_⟩
  · rw [ev (fun y => by have := y.2.2.2.2.2; omega)] at H
    exact ⟨by rw [e3]; exact hf, H _ (QM_err (q 0 (by decide)) (by decide) (by decide))⟩
  · have r0 : bcA N T m f t i = (rwn T (N (250 + 9 * f)) (snd N f) m.toNat).2 i := by unfold bcA; rw [if_pos ⟨c.1, by omega, c2.1, by omega, c3, c6⟩, if_neg (by omega)]
    rw [r0] at H
    have := rb.2.2 i c5 c6
    rw [w1 i c5 c6]
    exact H h1 (q _ (by omega))
  · have r0 : bcA N T m f t i = (rwn T (N (250 + 9 * f)) (snd N f) m.toNat).1 := by unfold bcA; rw [if_pos ⟨c.1, by omega, c2.1, by omega, c3, by omega⟩, if_pos c5]
    rw [r0] at H
    exact H h1 (q _ (by omega))
