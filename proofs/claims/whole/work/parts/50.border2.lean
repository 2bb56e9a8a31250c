/-! the border, on both sides -/
def BR (N : Int → Int) (th one two what r : Int) : Prop := ∃ L d t s, FM (lie N (fun v => sd N (N 4) v th) one two) ZM L d t s ∧ r = if what = 0 then L else if what = 1 then d else if what = 2 then t else s
theorem BR_one {N : Int → Int} {th one two what r r' : Int} (A : BR N th one two what r) (B : BR N th one two what r') : r = r' := by
  obtain ⟨L, d, t, s, a, e⟩ := A
  obtain ⟨L', d', t', s', b, e'⟩ := B
  obtain ⟨q1, q2, q3, q4⟩ := FM_one a b
  rw [e, e', q1, q2, q3, q4]
theorem BR_lo {N : Int → Int} {th one two what r : Int} (O : OL N) (A : BR N th one two what r) : ¬ r < -99999 := by
  obtain ⟨L, d, t, s, a, e⟩ := A
  have z := a.1
  have l := lie_bd (S := fun v => sd N (N 4) v th) (one := one) (two := two) (d := d) (t := t) (s := s) O
  have g := a.2.1
  unfold ZM at z
  rw [e]
  repeat' split
  all_goals omega
noncomputable def boA (N : Int → Int) (th one two what : Int) : Int := if 0 ≤ th ∧ th < 6 ∧ 0 ≤ one ∧ one < N 2 ∧ 0 ≤ two ∧ two < N 2 ∧ 0 ≤ what ∧ what ≤ 3 then (if one = two then -100003 else Classical.epsilon (BR N th one two what)) else -100001
theorem Q_border {N : Int → Int} {h : am_H} {th one two what : Int} {P : Int → am_H → Prop} (O : OK N) (T : ST h N) (hf : am_ok (h 0 13 + 1)) (H : ∀ h1, QF N h h1 (boA N th one two what) → P (boA N th one two what) h1) : ∃ a_ h_, am_cd 6 223 [.inr (.inr 0), .inl th, .inl one, .inl two, .inl what] h (some (.inl a_)) h_ ∧ P a_ h_ := by
  obtain ⟨oL, oP, oF, oA, _⟩ := O
  have bad : ¬ (0 ≤ th ∧ th < 6 ∧ 0 ≤ one ∧ one < N 2 ∧ 0 ≤ two ∧ two < N 2 ∧ 0 ≤ what ∧ what ≤ 3) → am_ok (h 0 13 + 1) ∧ P (-100001) (am_up h 0 13 (h 0 13 + 1)) := fun k => by
    have e : boA N th one two what = -100001 := by unfold boA; rw [if_neg k]
    rw [e] at H
    exact ⟨hf, H _ (QF_e0 T (by decide))⟩
  refine e_At_border ?_
  rw [T.2.2.1.1, T.2.2.2.2.2]
  refine ⟨fun c => ⟨fun c2 => ⟨fun c3 => ⟨fun c4 => bad (by omega), fun c4 => ⟨fun c5 => ⟨fun c6 => am_liftv (Nat.le_of_ble_eq_true rfl) (S_draw oL oP oF oA T.1 T.2.1 T.2.2.2.1 (fun h1 f1 fm => am_lifti (Nat.le_of_ble_eq_true rfl) (e_Border_partOf ?_))), fun c6 => ?_⟩, fun c5 => bad (by omega)⟩⟩, fun c3 => bad (by omega)⟩, fun c2 => bad (by omega)⟩, fun c => bad (by omega)⟩
  · have go : ∀ r, r = (if what = 0 then h1 32 4 else if what = 1 then h1 32 5 else if what = 2 then h1 32 6 else h1 32 7) → P r h1 := fun r hr => by
      have br : BR N th one two what r := ⟨_, _, _, _, fm, hr⟩
      have e : boA N th one two what = r := by
        unfold boA
        rw [if_pos (by omega), if_neg c6]
        exact BR_one (Classical.epsilon_spec (p := BR N th one two what) ⟨r, br⟩) br
      rw [e] at H
      exact H h1 (QF_g T (fun p p1 p2 p3 p4 => f1 p p3 (by omega)) (fun j _ => by rw [f1 0 (by decide) (by decide)]) (by rw [f1 0 (by decide) (by decide), if_neg (BR_lo oL br)]; omega))
    exact ⟨fun q => go _ (by rw [if_pos q]), fun q => ⟨fun q1 => go _ (by rw [if_neg q, if_pos q1]), fun q1 => ⟨fun q2 => go _ (by rw [if_neg q, if_neg q1, if_pos q2]), fun q2 => go _ (by rw [if_neg q, if_neg q1, if_neg q2])⟩⟩⟩
  · have e : boA N th one two what = -100003 := by unfold boA; rw [if_pos (by omega), if_pos c6]
    rw [e] at H
    exact ⟨hf, H _ (QF_e0 T (by decide))⟩
/-- as QM, but a new row may be made -/
def QB (h h1 : am_H) (a : Int) : Prop := (∀ p, p < 56 ∨ p = 57 ∨ p = 58 ∨ (63 ≤ p ∧ p ≤ 65) ∨ (76 ≤ p ∧ p ≤ 78) ∨ 1000 < p → h1 p = h p) ∧ (h1 56 2 = h 56 2 ∧ h1 56 14 = h 56 14) ∧ h1 56 3 = h 56 3 + (if a < -99999 then 1 else 0) ∧ (∀ j, j ≠ 0 → h1 1000 j = h 1000 j) ∧ h 1000 0 ≤ h1 1000 0 ∧ h1 1000 0 ≤ h 1000 0 + 1
theorem QB_of {h h1 : am_H} {a : Int} (Q : QM h h1 a) : QB h h1 a := by
  have e := Q.1 1000 (by omega)
  exact ⟨fun p hp => Q.1 p (by omega), Q.2.1, Q.2.2, fun j _ => by rw [e], by rw [e]; omega, by rw [e]; omega⟩
theorem nw_o {h : am_H} {q : Nat} (q0 : q ≠ 1000) (q1 : q ≠ am_n h) : am_nw h q = h q := by
  funext j
  unfold am_nw
  rw [if_neg (by omega), if_neg q1]
theorem nw_1000 {h : am_H} (l : am_n h ≠ 1000) {j : Int} : am_nw h 1000 j = if j = 0 then h 1000 0 + 1 else h 1000 j := by
  unfold am_nw
  by_cases q : j = 0
  · rw [if_pos ⟨rfl, q⟩, if_pos q]
  · rw [if_neg (fun y => q y.2), if_neg (fun y => l y.symm), if_neg q]
theorem Q_Mborder {N : Int → Int} {h : am_H} {th one two what : Int} {P : Int → am_H → Prop} (O : OK N) (eN : h 57 = N) (k0 : 0 ≤ h 1000 0) (k1 : h 1000 0 < 800) (hf : am_ok (h 56 3 + 1)) (H : ∀ h1, QB h h1 (boA N th one two what) → P (boA N th one two what) h1) : ∃ a_ h_, am_cd 4 196 [.inr (.inr 56), .inl th, .inl one, .inl two, .inl what] h (some (.inl a_)) h_ ∧ P a_ h_ := by
  obtain ⟨oL, oP, oF, oA, _⟩ := O
  have l0 := oF.1
  have bad : ¬ (0 ≤ th ∧ th < 6 ∧ 0 ≤ one ∧ one < N 2 ∧ 0 ≤ two ∧ two < N 2 ∧ 0 ≤ what ∧ what ≤ 3) → am_ok (h 56 3 + 1) ∧ P (-100001) (am_up h 56 3 (h 56 3 + 1)) := fun k => by
    have e : boA N th one two what = -100001 := by unfold boA; rw [if_neg k]
    rw [e] at H
    exact ⟨hf, H _ (QB_of (QM_e0 (by decide)))⟩
  refine e_Mo_border ?_
  rw [eN]
  refine ⟨fun c => ⟨by omega, fun c2 => ⟨fun c3 => ⟨fun c4 => ⟨fun c6 => am_liftv (Nat.le_of_ble_eq_true rfl) (S_Msettle oP oL oF oA eN (fun h1 f1 _ w1 => ?_)), fun c6 => ?_⟩, fun c4 => bad (by omega)⟩, fun c3 => bad (by omega)⟩, fun c2 => bad (by omega)⟩, fun c => bad (by omega)⟩
  · have e1000 : h1 1000 = h 1000 := f1 1000 (by decide) (by decide)
    have an : am_n h1 = 80 + (h 1000 0).toNat := by unfold am_n; rw [e1000]
    have n0 : 80 ≤ am_n h1 := by omega
    have n1' : am_n h1 < 1000 := by omega
    have nn : am_n (am_nw h1) = am_n h1 + 1 := by
      have : am_nw h1 1000 0 = h 1000 0 + 1 := by rw [nw_1000 (by omega), if_pos rfl, e1000]
      show 80 + (am_nw h1 1000 0).toNat = _
      rw [this, an]; omega
    refine ⟨⟨by rw [e1000]; exact k1, al_new n0 n1' (by omega), n1'⟩, ?_⟩
    generalize hp : am_n h1 = p at *
    have u : ∀ q, q ≠ 1000 → q ≠ p → am_up (am_nw h1) p 0 (-1) q = h1 q := fun q q1 q2 => by rw [up_ne q2]; exact nw_o q1 (by rw [hp]; exact q2)
    have v1000 : ∀ j, am_up (am_nw h1) p 0 (-1) 1000 j = if j = 0 then h 1000 0 + 1 else h 1000 j := fun j => by rw [up_ne (by omega), nw_1000 (by rw [hp]; omega), e1000]
    have pn : p < am_n (am_up (am_nw h1) p 0 (-1)) := by
      show p < 80 + (am_up (am_nw h1) p 0 (-1) 1000 0).toNat
      rw [v1000 0, if_pos rfl]; omega
    refine L_Mborder75 (N := N) (h0 := am_up (am_nw h1) p 0 (-1)) (S := fun v => sd N (N 4) v th) oL (by rw [u 57 (by decide) (by omega)]; exact (f1 57 (by decide) (by decide)).trans eN) c.1 (by omega) (fun v v0 v1 => by rw [u 62 (by decide) (by omega)]; exact w1 v th v0 v1 c.1 (by omega)) n0 n1' pn c4.1 (by omega) (fun h2 f2 fm => ?_) 0 _ (by omega) (by omega) ⟨fun _ _ => rfl, .inl ⟨by rw [up_same, if_pos rfl], fun d t s z => ?_⟩⟩
    · have br : BR N th one two what (h2 p what) := ⟨_, _, _, _, fm, by
        rcases (show what = 0 ∨ what = 1 ∨ what = 2 ∨ what = 3 by omega) with q | q | q | q <;> subst q <;> rfl⟩
      have e : boA N th one two what = h2 p what := by
        unfold boA
        rw [if_pos (by omega), if_neg c6]
        exact BR_one (Classical.epsilon_spec (p := BR N th one two what) ⟨_, br⟩) br
      have lo := BR_lo oL br
      rw [e] at H
      have g : ∀ q, q ≠ 1000 → q ≠ p → q ≠ 61 → q ≠ 62 → h2 q = h q := fun q q1 q2 q3 q4 => by rw [f2 q q2, u q q1 q2]; exact f1 q q3 q4
      have g3 : ∀ j, h2 1000 j = if j = 0 then h 1000 0 + 1 else h 1000 j := fun j => by rw [f2 1000 (by omega)]; exact v1000 j
      have e56 := g 56 (by decide) (by omega) (by decide) (by decide)
      exact H h2 ⟨fun q hq => g q (by omega) (by omega) (by omega) (by omega), ⟨by rw [e56], by rw [e56]⟩, by rw [e56, if_neg lo]; omega, fun j hj => by rw [g3, if_neg hj], by rw [g3, if_pos rfl]; omega, by rw [g3, if_pos rfl]; omega⟩
    · have z1 := z.1
      have z2 := z.2
      unfold ZM at z1
      unfold lx at z2
      omega
  · have e : boA N th one two what = -100003 := by unfold boA; rw [if_pos (by omega), if_pos c6]
    rw [e] at H
    exact ⟨hf, H _ (QB_of (QM_e0 (by decide)))⟩
