/-! the border, on both sides -/
def BR (N : Int → Int) (th one two what r : Int) : Prop := ∃ L d t s, FM (lie N (fun v => sd N (N 4) v th) one two) ZM L d t s ∧ r = if what = 0 then L else if what = 1 then d else if what = 2 then t else s
theorem BR_one {N : Int → Int} {th one two what r r' : Int} (A : BR N th one two what r) (B : BR N th one two what r') : r = r' := by
  obtain ⟨L, d, t, s, a, e⟩ := A
  obtain ⟨L', d', t', s', b, e'⟩ := B
  obtain ⟨q1, q2, q3, q4⟩ := FM_one a b
  rw [e, e', q1, q2, q3, q4]
theorem BR_lo {N : Int → Int} {th one two what r : Int} (O : OL N) (A : BR N th one two what r) : ¬ r < -99999 := by
  obtain ⟨L, d, t, s, a, e⟩ := A
  have z := a.1
  have l := lie_bd (S := fun v => sd N (N 4) v th) (one := one) (two := two) (d := d) (t := t) (s := s) O
  have g := a.2.1
  unfold ZM at z
  rw [e]
  repeat' split
  all_goals omega
noncomputable def boA (N : Int → Int) (th one two what : Int) : Int := if 0 ≤ th ∧ th < 6 ∧ 0 ≤ one ∧ one < N 2 ∧ 0 ≤ two ∧ two < N 2 ∧ 0 ≤ what ∧ what ≤ 3 then (if one = two then -100003 else Classical.epsilon (BR N th one two what)) else -100001
theorem Q_border {N : Int → Int} {h : am_H} {th one two what : Int} {P : Int → am_H → Prop} (O : OK N) (T : ST h N) (hf : am_ok (h 0 13 + 1)) (H : ∀ h1, QF N h h1 (boA N th one two what) → P (boA N th one two what) h1) : ∃ a_ h_, am_cd 6 223 [.inr (.inr 0), .inl th, .inl one, .inl two, .inl what] h (some (.inl a_)) h_ ∧ P a_ h_ := by
  obtain ⟨oL, oP, oF, oA, _⟩ := O
  have bad : ¬ (0 ≤ th ∧ th < 6 ∧ 0 ≤ one ∧ one < N 2 ∧ 0 ≤ two ∧ two < N 2 ∧ 0 ≤ what ∧ what ≤ 3) → am_ok (h 0 13 + 1) ∧ P (-100001) (am_up h 0 13 (h 0 13 + 1)) := fun k => by
    have e : boA N th one two what = -100001 := by unfold boA; rw [if_neg k]
    rw [e] at H
    exact ⟨hf, H _ (QF_e0 T (by decide))⟩
  refine e_At_border ?_
  rw [T.2.2.1.1, T.2.2.2.2.2]
  refine ⟨fun c => ⟨fun c2 => ⟨fun c3 => ⟨fun c4 => bad (by omega), fun c4 => ⟨fun c5 => ⟨fun c6 => am_liftv (Nat.le_of_ble_eq_true rfl) (S_draw oL oP oF oA T.1 T.2.1 T.2.2.2.1 (fun h1 f1 fm => am_lifti (Nat.le_of_ble_eq_true rfl) (e_Border_partOf ?_))), fun c6 => ?_⟩, fun c5 => bad (by omega)⟩⟩, fun c3 => bad (by omega)⟩, fun c2 => bad (by omega)⟩, fun c => bad (by omega)⟩
  · have go : ∀ r, r = (if what = 0 then h1 32 4 else if what = 1 then h1 32 5 else if what = 2 then h1 32 6 else h1 32 7) → P r h1 := fun r hr => by
      have br : BR N th one two what r := ⟨_, _, _, _, fm, hr⟩
      have e : boA N th one two what = r := by
        unfold boA
        rw [if_pos (by omega), if_neg c6]
        exact BR_one (Classical.epsilon_spec (p := BR N th one two what) ⟨r, br⟩) br
      rw [e] at H
      exact H h1 (QF_g T (fun p p1 p2 p3 p4 => f1 p p3 (by omega)) (fun j _ => by rw [f1 0 (by decide) (by decide)]) (by rw [f1 0 (by decide) (by decide), if_neg (BR_lo oL br)]; omega))
    exact ⟨fun q => go _ (by rw [if_pos q]), fun q => ⟨fun q1 => go _ (by rw [if_neg q, if_pos q1]), fun q1 => ⟨fun q2 => go _ (by rw [if_neg q, if_neg q1, if_pos q2]), fun q2 => go _ (by rw [if_neg q, if_neg q1, if_neg q2])⟩⟩⟩
  · have e : boA N th one two what = -100003 := by unfold boA; rw [if_pos (by omega), if_pos c6]
    rw [e] at H
    exact ⟨hf, H _ (QF_e0 T (by decide))⟩
