/-! proofs on sheets -/
noncomputable def pvA (N w z c : Int → Int) (s most : Int) : Int := if 0 ≤ s ∧ s < 4 then (if w s = 0 then -100002 else if 10 < N 0 then -100003 else Classical.epsilon (jR (dst N (N 4)) (N 0) (z s) (fun i => c (20 * s + i)) most)) else -100001
theorem jR_lo {A : Int → Int → Int} {nv sz most r : Int} {x : Int → Int} (h : jR A nv sz x most r) (s0 : 0 ≤ sz) : -1 ≤ r := by
  rcases h with ⟨v, v0, _, _, _, _, e⟩ | ⟨_, e⟩
  · omega
  · rw [e]
    split
    · split <;> omega
    · omega
theorem Q_proves {N w z c : Int → Int} {h : am_H} {s most : Int} {P : Int → am_H → Prop} (O : OK N) (T : ST h N) (ew : h 48 = w) (ez : h 49 = z) (ec : h 50 = c) (zb : ∀ s, 0 ≤ s → s < 4 → 0 ≤ z s ∧ z s ≤ 20) (hf : am_ok (h 0 13 + 1)) (H : ∀ h1, QF N h h1 (pvA N w z c s most) → P (pvA N w z c s most) h1) : ∃ a_ h_, am_cd 7 229 [.inr (.inr 0), .inl s, .inl most] h (some (.inl a_)) h_ ∧ P a_ h_ := by
  obtain ⟨oL, oP, oF, oA, _⟩ := O
  refine e_At_proves ?_
  rw [T.1.1, T.2.2.2.2.2, ew]
  refine ⟨fun q => ⟨fun q2 => ?_, fun q2 => ⟨fun q3 => ?_, fun q3 => ?_⟩⟩, fun q => ?_⟩
  · have e : pvA N w z c s most = -100002 := by unfold pvA; rw [if_pos q, if_pos q2]
    rw [e] at H
    exact ⟨hf, H _ (QF_e0 T (by decide))⟩
  · have zs := zb s q.1 q.2
    refine am_lifti (Nat.le_of_ble_eq_true rfl) (S_judge oL oP oF oA q3 q.1 q.2 (by rw [ez]; exact zs.2) T.1 T.2.2.1 T.2.1 T.2.2.2.1 T.2.2.2.2.1 (fun h1 r f1 m1 hr => ?_))
    rw [ez, ec] at hr
    have er : pvA N w z c s most = r := by
      unfold pvA
      rw [if_pos q, if_neg q2, if_neg (by omega)]
      exact jR_one (Classical.epsilon_spec (p := jR (dst N (N 4)) (N 0) (z s) (fun i => c (20 * s + i)) most) ⟨r, hr⟩) hr
    have lo := jR_lo hr zs.1
    rw [er] at H
    have e0 := f1 0 (by decide) (by decide) (by decide) (by decide) (by decide) (by decide) (by decide)
    exact H h1 (QF_15 T m1 (fun p p1 p2 p3 p4 p5 p6 => f1 p p3 p4 p5 (by omega) (by omega) (by omega) (by omega)) (fun j _ => by rw [e0]) (by rw [e0, if_neg (by omega)]; omega))
  · have e : pvA N w z c s most = -100003 := by unfold pvA; rw [if_pos q, if_neg q2, if_pos q3]
    rw [e] at H
    exact ⟨hf, H _ (QF_e0 T (by decide))⟩
  · have e : pvA N w z c s most = -100001 := by unfold pvA; rw [if_neg q]
    rw [e] at H
    exact ⟨hf, H _ (QF_e0 T (by decide))⟩
