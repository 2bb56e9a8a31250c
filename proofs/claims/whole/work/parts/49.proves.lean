/-! proofs on sheets -/
noncomputable def pvA (N w z c : Int → Int) (s most : Int) : Int := if 0 ≤ s ∧ s < 4 then (if w s = 0 then -100002 else if 10 < N 0 then -100003 else Classical.epsilon (jR (dst N (N 4)) (N 0) (z s) (fun i => c (20 * s + i)) most)) else -100001
theorem jR_lo {A : Int → Int → Int} {nv sz most r : Int} {x : Int → Int} (h : jR A nv sz x most r) (s0 : 0 ≤ sz) : -1 ≤ r := by
  rcases h with ⟨v, v0, _, _, _, _, e⟩ | ⟨_, e⟩
  · omega
  · rw [e]
    split
    · split <;> omega
    · omega
theorem Q_proves {N w z c : Int → Int} {h : am_H} {s most : Int} {P : Int → am_H → Prop} (O : OK N) (T : ST h N) (ew : h 48 = w) (ez : h 49 = z) (ec : h 50 = c) (zb : ∀ s, 0 ≤ s → s < 4 → 0 ≤ z s ∧ z s ≤ 20) (hf : am_ok (h 0 13 + 1)) (H : ∀ h1, QF N h h1 (pvA N w z c s most) → P (pvA N w z c s most) h1) : ∃ a_ h_, am_cd 7 229 [.inr (.inr 0), .inl s, .inl most] h (some (.inl a_)) h_ ∧ P a_ h_ := by
  obtain ⟨oL, oP, oF, oA, _⟩ := O
  refine e_At_proves ?_
  rw [T.1.1, T.2.2.2.2.2, ew]
  refine ⟨fun q => ⟨fun q2 => ?_, fun q2 => ⟨fun q3 => ?_, fun q3 => ?_⟩⟩, fun q => ?_⟩
  · have e : pvA N w z c s most = -100002 := by unfold pvA; rw [if_pos q, if_pos q2]
    rw [e] at H
    exact ⟨hf, H _ (QF_e0 T (by decide))⟩
  · have zs := zb s q.1 q.2
    refine am_lifti (Nat.le_of_ble_eq_true rfl) (S_judge oL oP oF oA q3 q.1 q.2 (by rw [ez]; exact zs.2) T.1 T.2.2.1 T.2.1 T.2.2.2.1 T.2.2.2.2.1 (fun h1 r f1 m1 hr => ?_))
    rw [ez, ec] at hr
    have er : pvA N w z c s most = r := by
      unfold pvA
      rw [if_pos q, if_neg q2, if_neg (by omega)]
      exact jR_one (Classical.epsilon_spec (p := jR (dst N (N 4)) (N 0) (z s) (fun i => c (20 * s + i)) most) ⟨r, hr⟩) hr
    have lo := jR_lo hr zs.1
    rw [er] at H
    have e0 := f1 0 (by decide) (by decide) (by decide) (by decide) (by decide) (by decide) (by decide)
    exact H h1 (QF_15 T m1 (fun p p1 p2 p3 p4 p5 p6 => f1 p p3 p4 p5 (by omega) (by omega) (by omega) (by omega)) (fun j _ => by rw [e0]) (by rw [e0, if_neg (by omega)]; omega))
  · have e : pvA N w z c s most = -100003 := by unfold pvA; rw [if_pos q, if_neg q2, if_pos q3]
    rw [e] at H
    exact ⟨hf, H _ (QF_e0 T (by decide))⟩
  · have e : pvA N w z c s most = -100001 := by unfold pvA; rw [if_neg q]
    rw [e] at H
    exact ⟨hf, H _ (QF_e0 T (by decide))⟩
theorem Q_Mproves {N w z c : Int → Int} {h : am_H} {s most : Int} {P : Int → am_H → Prop} (O : OK N) (eN : h 57 = N) (ew : h 76 = w) (ez : h 77 = z) (ec : h 78 = c) (zb : ∀ s, 0 ≤ s → s < 4 → 0 ≤ z s ∧ z s ≤ 20) (hf : am_ok (h 56 3 + 1)) (H : ∀ h1, QM h h1 (pvA N w z c s most) → P (pvA N w z c s most) h1) : ∃ a_ h_, am_cd 5 219 [.inr (.inr 56), .inl s, .inl most] h (some (.inl a_)) h_ ∧ P a_ h_ := by
  obtain ⟨oL, oP, oF, oA, _⟩ := O
  have l0 := oL.1
  have A : OD (dst N (N 4)) := fun u v => dst_bd oF
  refine e_Mo_proves ?_
  rw [eN, ew]
  refine ⟨fun q => ⟨by omega, fun q2 => ⟨fun q3 => ?_, fun q3 => ?_⟩, fun q2 => ?_⟩, fun q => ?_⟩
  · have zs := zb s q.1 (by omega)
    refine am_liftv (Nat.le_of_ble_eq_true rfl) (S_MfindApart oL oP oF oA eN (fun h1 f1 w1 => ?_))
    have u1 : ∀ p, p ≠ 60 → p ≠ 61 → p ≠ 62 → p ≠ 69 → p ≠ 70 → h1 p = h p := f1
    have e77 := (u1 77 (by decide) (by decide) (by decide) (by decide) (by decide)).trans ez
    have e78 := (u1 78 (by decide) (by decide) (by decide) (by decide) (by decide)).trans ec
    have e57 := (u1 57 (by decide) (by decide) (by decide) (by decide) (by decide)).trans eN
    have e56 := u1 56 (by decide) (by decide) (by decide) (by decide) (by decide)
    refine L_Mproves66 (A := dst N (N 4)) (nv := N 0) (x := fun i => c (20 * s + i)) A (by rw [e57]) w1 l0.1 q3 q.1 (by omega) (by rw [e77]; exact zs.2) (fun i => by rw [e78]) (fun r hr => ?_) 0 (by omega) l0.1 (fun u _ _ => by omega)
    rw [e77] at hr
    have er : pvA N w z c s most = r := by
      unfold pvA
      rw [if_pos (by omega), if_neg q2, if_neg (by omega)]
      exact jR_one (Classical.epsilon_spec (p := jR (dst N (N 4)) (N 0) (z s) (fun i => c (20 * s + i)) most) ⟨r, hr⟩) hr
    have lo := jR_lo hr zs.1
    rw [er] at H
    exact H h1 (QM_g (fun p p1 p2 => u1 p (by omega) (by omega) (by omega) (by omega) (by omega)) (fun i _ _ => by rw [e56]) (by rw [e56, if_neg (by omega)]; omega))
  · have e : pvA N w z c s most = -100003 := by unfold pvA; rw [if_pos (by omega), if_neg q2, if_pos q3]
    rw [e] at H
    exact ⟨hf, H _ (QM_e0 (by decide))⟩
  · have e : pvA N w z c s most = -100002 := by unfold pvA; rw [if_pos (by omega), if_pos q2]
    rw [e] at H
    exact ⟨hf, H _ (QM_e0 (by decide))⟩
  · have e : pvA N w z c s most = -100001 := by unfold pvA; rw [if_neg (by omega)]
    rw [e] at H
    exact ⟨hf, H _ (QM_e0 (by decide))⟩
