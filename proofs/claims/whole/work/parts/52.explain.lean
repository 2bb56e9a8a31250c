/-! what a text explains, and how much it covers -/
def tRow (N : Int → Int) (T : Int → Int → Int) (m f : Int) : Int × (Int → Int) := rwn T (N (250 + 9 * f)) (snd N f) m.toNat
theorem S_turnedForm {N : Int → Int} {h : am_H} {f t m : Int} {T : Int → Int → Int} {P : Int → am_H → Prop} (F : OF N) (R : FR h N) (f0 : 0 ≤ f) (f1 : f < N 2) (C : TC h t m T) (O : OT T m) (t0 : 0 ≤ t) (t1 : t < 4) (m0 : 0 ≤ m) (m1 : m ≤ 12) (H : ∀ h1 r, (∀ p, p ≠ 24 → p ≠ 31 → h1 p = h p) → (∀ j, j ≠ 8 → h1 24 j = h 24 j) → fnd N (tRow N T m f).1 (tRow N T m f).2 r → P r h1) : ∃ a_ h_, am_cd 4 183 [.inr (.inr 24), .inl f, .inl t] h (some (.inl a_)) h_ ∧ P a_ h_ := by
  refine e_Texts_turnedForm (am_lifti (Nat.le_of_ble_eq_true rfl) (S_turn F R f0 f1 C O t0 t1 m0 m1 (fun h1 g1 g2 w1 => am_lifti (Nat.le_of_ble_eq_true rfl) (S_find (k := 8) (fun h => by with_unfolding_all rfl) (by decide) (by decide) F (FR_of (by rw [g1 11 (by decide) (by decide)]) (g1 12 (by decide) (by decide)) (g1 13 (by decide) (by decide)) R) (fun r hr => H h1 r g1 g2 (fnd_cg w1 hr))))))
def EX (N : Int → Int) (T : Int → Int → Int → Int) (m : Int → Int) (S f r : Int) : Prop := (0 ≤ r ∧ r < 4 ∧ lk N S (tRow N (T r) (m r) f).1 (tRow N (T r) (m r) f).2 ∧ ∀ t, 0 ≤ t → t < r → ¬ lk N S (tRow N (T t) (m t) f).1 (tRow N (T t) (m t) f).2) ∨ (r = -100006 ∧ ∀ t, 0 ≤ t → t < 4 → ¬ lk N S (tRow N (T t) (m t) f).1 (tRow N (T t) (m t) f).2)
theorem EX_one {N : Int → Int} {T : Int → Int → Int → Int} {m : Int → Int} {S f r r' : Int} (A : EX N T m S f r) (B : EX N T m S f r') : r = r' := by
  rcases A with ⟨a0, a1, a2, a3⟩ | ⟨a0, a1⟩ <;> rcases B with ⟨b0, b1, b2, b3⟩ | ⟨b0, b1⟩
  · rcases Int.lt_trichotomy r r' with q | q | q
    · exact absurd a2 (b3 r a0 q)
    · exact q
    · exact absurd b2 (a3 r' b0 q)
  · exact absurd a2 (b1 r a0 a1)
  · exact absurd b2 (a1 r' b0 b1)
  · omega
noncomputable def exA (N : Int → Int) (T : Int → Int → Int → Int) (m : Int → Int) (v th f : Int) : Int := if 0 ≤ v ∧ v < N 0 ∧ 0 ≤ th ∧ th < 6 ∧ 0 ≤ f ∧ f < N 2 then (if sd N (N 4) v th < 0 then -100002 else Classical.epsilon (EX N T m (sd N (N 4) v th) f)) else -100001
theorem QF_t {N : Int → Int} {h h1 : am_H} {a : Int} (S : ST h N) (f1 : ∀ p, p ≠ 23 → p ≠ 24 → p ≠ 31 → h1 p = h p) (g1 : ∀ j, j ≠ 8 → h1 24 j = h 24 j) (na : ¬ a < -99999) : QF N h h1 a := by
  have u : ∀ p, p ≠ 23 → p ≠ 24 → p < 31 → h1 p = h p := fun p p1 p2 p3 => f1 p p1 p2 (by omega)
  exact ⟨fun p hp => f1 p (by omega) (by omega) (by omega), g1 1 (by decide), ST_of (by rw [u 0 (by decide) (by decide) (by decide)]) (u _ (by decide) (by decide) (by decide)) (u _ (by decide) (by decide) (by decide)) (u _ (by decide) (by decide) (by decide)) (u _ (by decide) (by decide) (by decide)) (u _ (by decide) (by decide) (by decide)) (u _ (by decide) (by decide) (by decide)) (u _ (by decide) (by decide) (by decide)) (u _ (by decide) (by decide) (by decide)) (u _ (by decide) (by decide) (by decide)) (by rw [u 11 (by decide) (by decide) (by decide)]) (u _ (by decide) (by decide) (by decide)) (u _ (by decide) (by decide) (by decide)) (MR_of (u _ (by decide) (by decide) (by decide))) (u _ (by decide) (by decide) (by decide)) (u _ (by decide) (by decide) (by decide)) (u _ (by decide) (by decide) (by decide)) (u _ (by decide) (by decide) (by decide)) (u _ (by decide) (by decide) (by decide)) (u _ (by decide) (by decide) (by decide)) S, by rw [u 0 (by decide) (by decide) (by decide), if_neg na]; omega⟩
theorem Q_explains {N : Int → Int} {h : am_H} {v th f : Int} {T : Int → Int → Int → Int} {m : Int → Int} {P : Int → am_H → Prop} (O : OK N) (D : DF N) (S : ST h N) (tx : ∀ t, 0 ≤ t → t < 4 → TC h t (m t) (T t) ∧ OT (T t) (m t) ∧ 0 ≤ m t ∧ m t ≤ 12) (hf : am_ok (h 0 13 + 1)) (H : ∀ h1, QF N h h1 (exA N T m v th f) → P (exA N T m v th f) h1) : ∃ a_ h_, am_cd 5 211 [.inr (.inr 0), .inl v, .inl th, .inl f] h (some (.inl a_)) h_ ∧ P a_ h_ := by
  obtain ⟨oL, oP, oF, oA, _⟩ := O
  have bad : ¬ (0 ≤ v ∧ v < N 0 ∧ 0 ≤ th ∧ th < 6 ∧ 0 ≤ f ∧ f < N 2) → am_ok (h 0 13 + 1) ∧ P (-100001) (am_up h 0 13 (h 0 13 + 1)) := fun k => by
    have e : exA N T m v th f = -100001 := by unfold exA; rw [if_neg k]
    rw [e] at H
    exact ⟨hf, H _ (QF_e0 S (by decide))⟩
  refine e_At_explains ?_
  rw [S.1.1, S.2.2.1.1, S.2.2.2.2.2]
  refine ⟨fun c => ⟨fun c2 => ⟨fun c3 => am_lifti (Nat.le_of_ble_eq_true rfl) (S_saidBy oP oF oA S.2.1 S.2.2.2.1 (fun h1 f1 => ?_)), fun c3 => bad (by omega)⟩, fun c2 => bad (by omega)⟩, fun c => bad (by omega)⟩
  have sb := sd_bd (N := N) (d := N 4) (v := v) (t := th) oF.1.1
  have r0 : exA N T m v th f = if sd N (N 4) v th < 0 then -100002 else Classical.epsilon (EX N T m (sd N (N 4) v th) f) := by unfold exA; rw [if_pos (by omega)]
  refine ⟨fun q => ?_, fun q => ?_⟩
  · rw [if_neg (by omega)] at r0
    generalize sd N (N 4) v th = s at *
    have fin : ∀ r, EX N T m s f r → exA N T m v th f = r := fun r hr => by rw [r0]; exact EX_one (Classical.epsilon_spec (p := EX N T m s f) ⟨r, hr⟩) hr
    have key : ∀ x5 h', 0 ≤ x5 → x5 ≤ 4 → (∀ p, p ≠ 23 → p ≠ 24 → p ≠ 31 → h' p = h p) → (∀ j, j ≠ 8 → h' 24 j = h 24 j) → (∀ t, 0 ≤ t → t < x5 → ¬ lk N s (tRow N (T t) (m t) f).1 (tRow N (T t) (m t) f).2) → am_x (am_cd 4) 211 (am_qi P) 0 67 [some (.inr (.inr 0)), none, none, some (.inl f), some (.inl s), some (.inl x5)] [] h' := by
      refine upto 4 (fun x5 ih h' a0 a1 a2 a3 a4 => ?_)
      refine g_At_explains_67 ⟨fun hc => ?_, fun hc => ?_⟩
      · have e := fin (-100006) (.inr ⟨rfl, fun t t0 t1 => a4 t t0 (by omega)⟩)
        rw [e] at H
        exact ⟨by rw [a2 0 (by decide) (by decide) (by decide)]; exact hf, H _ (QF_err (QF_t (a := 0) S a2 a3 (by decide)) (by decide) (by decide))⟩
      · obtain ⟨tc, ot, m0, m1⟩ := tx x5 a0 hc
        have tc' : TC h' x5 (m x5) (T x5) := by unfold TC; rw [a2 26 (by decide) (by decide) (by decide), a2 27 (by decide) (by decide) (by decide), a2 28 (by decide) (by decide) (by decide), a2 29 (by decide) (by decide) (by decide), a2 30 (by decide) (by decide) (by decide)]; exact tc
        refine am_lifti (Nat.le_of_ble_eq_true rfl) (S_turnedForm oF (FR_of (by rw [a2 11 (by decide) (by decide) (by decide)]) (a2 12 (by decide) (by decide) (by decide)) (a2 13 (by decide) (by decide) (by decide)) S.2.2.1) c3.1 c3.2 tc' ot a0 hc m0 m1 (fun h2 r f2 g2 hr => ?_))
        have b2 : ∀ p, p ≠ 23 → p ≠ 24 → p ≠ 31 → h2 p = h p := fun p p1 p2 p3 => (f2 p p2 p3).trans (a2 p p1 p2 p3)
        have b3 : ∀ j, j ≠ 8 → h2 24 j = h 24 j := fun j hj => (g2 j hj).trans (a3 j hj)
        refine ⟨fun k => ⟨by omega, ih hc h2 (by omega) (by omega) b2 b3 (fun t t0 t1 l => ?_)⟩, fun k => ?_⟩
        · rcases (show t = x5 ∨ t < x5 by omega) with z | z
          · subst z; exact k (DF_fnd D hr (by omega) (by omega) l)
          · exact a4 t t0 z l
        · have l : lk N s (tRow N (T x5) (m x5) f).1 (tRow N (T x5) (m x5) f).2 := by
            rcases hr with z | z
            · omega
            · rw [← k]; exact z.2.2.1
          have e := fin x5 (.inl ⟨a0, hc, l, a4⟩)
          rw [e] at H
          exact H h2 (QF_t S b2 b3 (by omega))
    exact key 0 h1 (by omega) (by omega) (fun p p1 _ _ => f1 p p1) (fun j _ => by rw [f1 24 (by decide)]) (fun t _ _ => by omega)
  · rw [if_pos (by omega)] at r0
    rw [r0] at H
    exact ⟨by rw [f1 0 (by decide)]; exact hf, H _ (QF_err (QF_23 (a := 0) S f1 (by decide)) (by decide) (by decide))⟩
