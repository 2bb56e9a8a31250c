/-! explains of the reference; covers -/
theorem Q_Mexplains {N : Int → Int} {h : am_H} {v th f : Int} {T : Int → Int → Int → Int} {m : Int → Int} {P : Int → am_H → Prop} (O : OK N) (eN : h 57 = N) (tx : ∀ t, 0 ≤ t → t < 4 → TM h t (m t) (T t) ∧ OT (T t) (m t) ∧ 0 ≤ m t ∧ m t ≤ 12) (hf : am_ok (h 56 3 + 1)) (H : ∀ h1, QM h h1 (exA N T m v th f) → P (exA N T m v th f) h1) : ∃ a_ h_, am_cd 4 194 [.inr (.inr 56), .inl v, .inl th, .inl f] h (some (.inl a_)) h_ ∧ P a_ h_ := by
  obtain ⟨oL, oP, oF, oA, _⟩ := O
  have l0 := oF.1
  have l1 := oL.1
  have bad : ¬ (0 ≤ v ∧ v < N 0 ∧ 0 ≤ th ∧ th < 6 ∧ 0 ≤ f ∧ f < N 2) → am_ok (h 56 3 + 1) ∧ P (-100001) (am_up h 56 3 (h 56 3 + 1)) := fun k => by
    have e : exA N T m v th f = -100001 := by unfold exA; rw [if_neg k]
    rw [e] at H
    exact ⟨hf, H _ (QM_e0 (by decide))⟩
  refine e_Mo_explains ?_
  rw [eN]
  refine ⟨by omega, fun c => ⟨fun c2 => ⟨by omega, fun c3 => am_liftv (Nat.le_of_ble_eq_true rfl) (S_Msettle oP oL oF oA eN (fun h1 f1 _ w1 => ?_)), fun c3 => bad (by omega)⟩, fun c2 => bad (by omega)⟩, fun c => bad (by omega)⟩
  have sb := sd_bd (N := N) (d := N 4) (v := v) (t := th) oF.1.1
  have r0 : exA N T m v th f = if sd N (N 4) v th < 0 then -100002 else Classical.epsilon (EX N T m (sd N (N 4) v th) f) := by unfold exA; rw [if_pos (by omega)]
  refine ⟨⟨by omega, by omega, by omega⟩, ?_⟩
  rw [w1 v th c.1 (by omega) c2.1 (by omega)]
  have q : ∀ h' a, ¬ a < -99999 → (∀ p, p ≠ 56 → p ≠ 61 → p ≠ 62 → p ≠ 67 → p ≠ 68 → h' p = h p) → (∀ j, j ≠ 16 → h' 56 j = h 56 j) → QM h h' a := fun h' a na f1 g1 => QM_g (fun p p1 p2 => f1 p p1 (by omega) (by omega) (by omega) (by omega)) (fun j _ j2 => g1 j (by omega)) (by rw [g1 3 (by decide), if_neg na]; omega)
  refine ⟨fun k => ?_, fun k => ?_⟩
  · rw [if_neg (by omega)] at r0
    generalize sd N (N 4) v th = s at *
    have fin : ∀ r, EX N T m s f r → exA N T m v th f = r := fun r hr => by rw [r0]; exact EX_one (Classical.epsilon_spec (p := EX N T m s f) ⟨r, hr⟩) hr
    have key : ∀ x5 h', 0 ≤ x5 → x5 ≤ 4 → (∀ p, p ≠ 56 → p ≠ 61 → p ≠ 62 → p ≠ 67 → p ≠ 68 → h' p = h p) → (∀ j, j ≠ 16 → h' 56 j = h 56 j) → (∀ t, 0 ≤ t → t < x5 → ¬ lk N s (tRow N (T t) (m t) f).1 (tRow N (T t) (m t) f).2) → am_x (am_cd 3) 194 (am_qi P) 0 68 [some (.inr (.inr 56)), none, none, some (.inl f), some (.inl s), some (.inl x5)] [] h' := by
      refine upto 4 (fun x5 ih h' a0 a1 a2 a3 a4 => ?_)
      refine g_Mo_explains_68 ⟨fun hc => ?_, fun hc => ?_⟩
      · have e := fin (-100006) (.inr ⟨rfl, fun t t0 t1 => a4 t t0 (by omega)⟩)
        rw [e] at H
        exact ⟨by rw [a3 3 (by decide)]; exact hf, H _ (QM_err (q h' 0 (by decide) a2 a3) (by decide) (by decide))⟩
      · obtain ⟨tc, ot, m0, m1⟩ := tx x5 a0 hc
        have tc' : TM h' x5 (m x5) (T x5) := by unfold TM; rw [a2 64 (by decide) (by decide) (by decide) (by decide) (by decide), a2 65 (by decide) (by decide) (by decide) (by decide) (by decide)]; exact tc
        have rb := rw_ok (T := T x5) (m := m x5) oF c3.1 (by omega) ot m0
        have e57 : h' 57 = N := (a2 57 (by decide) (by decide) (by decide) (by decide) (by decide)).trans eN
        refine am_liftv (Nat.le_of_ble_eq_true rfl) (S_Mbecome oF e57 c3.1 (by omega) tc' ot a0 hc m0 m1 (fun h2 f2 g2 e2 w2 => ?_))
        have b2 : ∀ p, p ≠ 56 → p ≠ 61 → p ≠ 62 → p ≠ 67 → p ≠ 68 → h2 p = h p := fun p p1 p2 p3 p4 p5 => (f2 p p1 p4 p5).trans (a2 p p1 p2 p3 p4 p5)
        have b3 : ∀ j, j ≠ 16 → h2 56 j = h 56 j := fun j hj => (g2 j hj).trans (a3 j hj)
        refine am_lifti (Nat.le_of_ble_eq_true rfl) (S_MisThat (n := (tRow N (T x5) (m x5) f).1) oF ((f2 57 (by decide) (by decide) (by decide)).trans e57) e2 rb.1 rb.2.1 (by omega) (fun s0 l => ?_) (fun l => ?_))
        · refine ⟨fun z => absurd z (by decide), fun _ => ?_⟩
          have e := fin x5 (.inl ⟨a0, hc, lk_cg w2 l, a4⟩)
          rw [e] at H
          exact H h2 (q h2 _ (by omega) b2 b3)
        · refine ⟨fun _ => ⟨by omega, ih hc h2 (by omega) (by omega) b2 b3 (fun t t0 t1 l2 => ?_)⟩, fun z => absurd rfl z⟩
          rcases (show t = x5 ∨ t < x5 by omega) with z | z
          · subst z; exact l ⟨k, lk_cg (fun i i0 i1 => (w2 i i0 i1).symm) l2⟩
          · exact a4 t t0 z l2
    exact key 0 h1 (by omega) (by omega) (fun p _ p1 p2 _ _ => f1 p p1 p2) (fun j _ => by rw [f1 56 (by decide) (by decide)]) (fun t _ _ => by omega)
  · rw [if_pos (by omega)] at r0
    rw [r0] at H
    exact ⟨by rw [f1 56 (by decide) (by decide)]; exact hf, H _ (QM_err (q h1 0 (by decide) (fun p _ p1 p2 _ _ => f1 p p1 p2) (fun j _ => by rw [f1 56 (by decide) (by decide)])) (by decide) (by decide))⟩
noncomputable def cl1 (p : Prop) : Int := @ite Int p (Classical.propDecidable p) 1 0
theorem cl1_t {p : Prop} (h : p) : cl1 p = 1 := by unfold cl1; rw [if_pos h]
theorem cl1_f {p : Prop} (h : ¬ p) : cl1 p = 0 := by unfold cl1; rw [if_neg h]
theorem cl1_b (p : Prop) : 0 ≤ cl1 p ∧ cl1 p ≤ 1 := by
  rcases Classical.em p with h | h
  · rw [cl1_t h]; omega
  · rw [cl1_f h]; omega
noncomputable def cvF (N : Int → Int) (T : Int → Int → Int) (m th f v : Int) : Int := cl1 (0 ≤ sd N (N 4) v th ∧ lk N (sd N (N 4) v th) (tRow N T m f).1 (tRow N T m f).2)
noncomputable def cvA (N : Int → Int) (T : Int → Int → Int) (m t th f : Int) : Int := if 0 ≤ t ∧ t < 4 ∧ 0 ≤ th ∧ th < 6 ∧ 0 ≤ f ∧ f < N 2 then su (cvF N T m th f) (N 0) else -100001
theorem cvF_bd {N : Int → Int} {T : Int → Int → Int} {m th f v : Int} (v0 : 0 ≤ v) (v1 : v ≤ 12) : 0 ≤ su (cvF N T m th f) v ∧ su (cvF N T m th f) v ≤ 12 := by
  have := su_bd (f := cvF N T m th f) (B := 1) (n := v) (by omega) v0 (fun x _ _ => cl1_b _)
  omega
theorem Q_covers {N : Int → Int} {h : am_H} {t th f m : Int} {T : Int → Int → Int} {P : Int → am_H → Prop} (O : OK N) (D : DF N) (S : ST h N) (tx : 0 ≤ t → t < 4 → TC h t m T ∧ OT T m ∧ 0 ≤ m ∧ m ≤ 12) (hf : am_ok (h 0 13 + 1)) (H : ∀ h1, QF N h h1 (cvA N T m t th f) → P (cvA N T m t th f) h1) : ∃ a_ h_, am_cd 5 212 [.inr (.inr 0), .inl t, .inl th, .inl f] h (some (.inl a_)) h_ ∧ P a_ h_ := by
  obtain ⟨oL, oP, oF, oA, _⟩ := O
  have l1 := oL.1
  have bad : ¬ (0 ≤ t ∧ t < 4 ∧ 0 ≤ th ∧ th < 6 ∧ 0 ≤ f ∧ f < N 2) → am_ok (h 0 13 + 1) ∧ P (-100001) (am_up h 0 13 (h 0 13 + 1)) := fun k => by
    have e : cvA N T m t th f = -100001 := by unfold cvA; rw [if_neg k]
    rw [e] at H
    exact ⟨hf, H _ (QF_e0 S (by decide))⟩
  refine e_At_covers ?_
  rw [S.2.2.1.1]
  refine ⟨fun c => ⟨fun c2 => ⟨fun c3 => ?_, fun c3 => bad (by omega)⟩, fun c2 => bad (by omega)⟩, fun c => bad (by omega)⟩
  obtain ⟨tc, ot, m0, m1⟩ := tx c.1 c.2
  refine am_lifti (Nat.le_of_ble_eq_true rfl) (S_turnedForm oF S.2.2.1 c3.1 c3.2 tc ot c.1 c.2 m0 m1 (fun h1 r f1 g1 hr => ?_))
  have r0 : cvA N T m t th f = su (cvF N T m th f) (N 0) := by unfold cvA; rw [if_pos (by omega)]
  have ev : ∀ v, r = sd N (N 4) v th → r ≠ -1 → cvF N T m th f v = 1 := fun v e n => by
    refine cl1_t ?_
    rw [← e]
    rcases hr with z | z
    · exact absurd z.1 n
    · exact ⟨z.1, z.2.2.1⟩
  have ew : ∀ v, sd N (N 4) v th ≠ r → cvF N T m th f v = 0 := fun v n => by
    refine cl1_f (fun y => n ?_)
    have sb := sd_bd (N := N) (d := N 4) (v := v) (t := th) oF.1.1
    exact (DF_fnd D hr y.1 (by omega) y.2).symm
  have ez : r = -1 → ∀ v, cvF N T m th f v = 0 := fun e v => by
    refine cl1_f (fun y => ?_)
    have sb := sd_bd (N := N) (d := N 4) (v := v) (t := th) oF.1.1
    have := DF_fnd D hr y.1 (by omega) y.2
    omega
  have key : ∀ x6 h', 0 ≤ x6 → x6 ≤ N 0 → (∀ p, p ≠ 23 → p ≠ 24 → p ≠ 31 → h' p = h p) → (∀ j, j ≠ 8 → h' 24 j = h 24 j) → am_x (am_cd 4) 212 (am_qi P) 0 49 [some (.inr (.inr 0)), none, some (.inl th), none, some (.inl r), some (.inl (su (cvF N T m th f) x6)), some (.inl x6)] [] h' := by
    refine upto (N 0) (fun x6 ih h' a0 a1 a2 a3 => ?_)
    have bd := cvF_bd (N := N) (T := T) (m := m) (th := th) (f := f) (v := x6) a0 (by omega)
    have Q := QF_t (a := 0) S a2 a3 (by decide)
    have S' := Q.2.2.1
    refine g_At_covers_49 ?_
    rw [S'.1.1, S'.2.2.2.2.2]
    refine ⟨fun hc => ?_, fun hc => ⟨fun z => ?_, fun z => ?_⟩⟩
    · have : x6 = N 0 := by omega
      subst this
      rw [r0] at H
      exact H h' (QF_t S a2 a3 (by omega))
    · have : su (cvF N T m th f) x6 = su (cvF N T m th f) (N 0) := by
        have : ∀ y, 0 ≤ y → su (cvF N T m th f) y = 0 := fun y y0 => su_ind (q := fun _ s => s = 0) rfl (fun x s x0 hs => by rw [hs, ez z]; rfl) y0
        rw [this _ a0, this _ (by omega)]
      rw [r0, ← this] at H
      exact H h' (QF_t S a2 a3 (by omega))
    · refine am_lifti (Nat.le_of_ble_eq_true rfl) (S_saidBy oP oF oA S'.2.1 S'.2.2.2.1 (fun h2 f2 => ?_))
      have b2 : ∀ p, p ≠ 23 → p ≠ 24 → p ≠ 31 → h2 p = h p := fun p p1 p2 p3 => (f2 p p1).trans (a2 p p1 p2 p3)
      have b3 : ∀ j, j ≠ 8 → h2 24 j = h 24 j := fun j hj => by rw [f2 24 (by decide)]; exact a3 j hj
      refine ⟨fun k => ⟨by omega, ?_⟩, fun k => ⟨⟨by omega, by omega⟩, ?_⟩⟩
      · have e := ih hc h2 (by omega) (by omega) b2 b3
        rw [su_1 a0, ew x6 k, Int.add_zero] at e
        exact e
      · have e := ih hc h2 (by omega) (by omega) b2 b3
        rw [su_1 a0, ev x6 k.symm z] at e
        exact e
  have e := key 0 h1 (by omega) (by omega) (fun p _ p2 p3 => f1 p p2 p3) g1
  rw [su_0 (by omega)] at e
  exact e
theorem Q_Mcovers {N : Int → Int} {h : am_H} {t th f m : Int} {T : Int → Int → Int} {P : Int → am_H → Prop} (O : OK N) (eN : h 57 = N) (tx : 0 ≤ t → t < 4 → TM h t m T ∧ OT T m ∧ 0 ≤ m ∧ m ≤ 12) (hf : am_ok (h 56 3 + 1)) (H : ∀ h1, QM h h1 (cvA N T m t th f) → P (cvA N T m t th f) h1) : ∃ a_ h_, am_cd 4 195 [.inr (.inr 56), .inl t, .inl th, .inl f] h (some (.inl a_)) h_ ∧ P a_ h_ := by
  obtain ⟨oL, oP, oF, oA, _⟩ := O
  have l0 := oF.1
  have l1 := oL.1
  have bad : ¬ (0 ≤ t ∧ t < 4 ∧ 0 ≤ th ∧ th < 6 ∧ 0 ≤ f ∧ f < N 2) → am_ok (h 56 3 + 1) ∧ P (-100001) (am_up h 56 3 (h 56 3 + 1)) := fun k => by
    have e : cvA N T m t th f = -100001 := by unfold cvA; rw [if_neg k]
    rw [e] at H
    exact ⟨hf, H _ (QM_e0 (by decide))⟩
  refine e_Mo_covers ?_
  rw [eN]
  refine ⟨fun c => ⟨fun c2 => ⟨by omega, fun c3 => am_liftv (Nat.le_of_ble_eq_true rfl) (S_Msettle oP oL oF oA eN (fun h1 f1 _ w1 => ?_)), fun c3 => bad (by omega)⟩, fun c2 => bad (by omega)⟩, fun c => bad (by omega)⟩
  obtain ⟨tm, ot, m0, m1⟩ := tx c.1 (by omega)
  have rb := rw_ok (T := T) (m := m) oF c3.1 (by omega) ot m0
  have tc' : TM h1 t m T := by unfold TM; rw [f1 64 (by decide) (by decide), f1 65 (by decide) (by decide)]; exact tm
  refine am_liftv (Nat.le_of_ble_eq_true rfl) (S_Mbecome oF ((f1 57 (by decide) (by decide)).trans eN) c3.1 (by omega) tc' ot c.1 (by omega) m0 m1 (fun h2 f2 g2 e2 w2 => ?_))
  have r0 : cvA N T m t th f = su (cvF N T m th f) (N 0) := by unfold cvA; rw [if_pos (by omega)]
  have e57 : h2 57 = N := ((f2 57 (by decide) (by decide) (by decide)).trans (f1 57 (by decide) (by decide))).trans eN
  have q : ∀ a, ¬ a < -99999 → QM h h2 a := fun a na => QM_g (fun p p1 p2 => (f2 p p1 (by omega) (by omega)).trans (f1 p (by omega) (by omega))) (fun j _ j2 => (g2 j (by omega)).trans (by rw [f1 56 (by decide) (by decide)])) (by rw [g2 3 (by decide), f1 56 (by decide) (by decide), if_neg na]; omega)
  have key : ∀ x5, 0 ≤ x5 → x5 ≤ N 0 → am_x (am_cd 3) 195 (am_qi P) 0 53 [some (.inr (.inr 56)), none, some (.inl th), none, some (.inl (su (cvF N T m th f) x5)), some (.inl x5)] [] h2 := by
    refine upto (N 0) (fun x5 ih a0 a1 => ?_)
    have bd := cvF_bd (N := N) (T := T) (m := m) (th := th) (f := f) (v := x5) a0 (by omega)
    refine g_Mo_covers_53 ?_
    rw [e57]
    refine ⟨fun hc => ?_, fun hc => ⟨⟨by omega, by omega, by omega⟩, ?_⟩⟩
    · have : x5 = N 0 := by omega
      subst this
      rw [r0] at H
      exact H h2 (q _ (by omega))
    · have sb := sd_bd (N := N) (d := N 4) (v := x5) (t := th) oF.1.1
      have ev : h2 62 (6 * x5 + th) = sd N (N 4) x5 th := by rw [f2 62 (by decide) (by decide) (by decide)]; exact w1 x5 th a0 hc c2.1 (by omega)
      rw [ev]
      have e := ih hc (by omega) (by omega)
      rw [su_1 a0] at e
      refine am_lifti (Nat.le_of_ble_eq_true rfl) (S_MisThat (n := (tRow N T m f).1) oF e57 e2 rb.1 rb.2.1 (by omega) (fun s0 l => ?_) (fun l => ?_))
      · refine ⟨fun z => absurd z (by decide), fun _ => ⟨⟨by omega, by omega⟩, ?_⟩⟩
        rw [show cvF N T m th f x5 = 1 from cl1_t ⟨s0, lk_cg w2 l⟩] at e
        exact e
      · refine ⟨fun _ => ⟨⟨by omega, by omega⟩, ?_⟩, fun z => absurd rfl z⟩
        rw [show cvF N T m th f x5 = 0 from cl1_f (fun y => l ⟨y.1, lk_cg (fun i i0 i1 => (w2 i i0 i1).symm) y.2⟩)] at e
        exact e
  have e := key 0 (by omega) (by omega)
  rw [su_0 (by omega)] at e
  exact e
