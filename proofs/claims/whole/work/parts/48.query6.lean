/-! dialects -/
theorem odf_nn {f : Int → Int × (Int → Int)} {c : Int → Int} {used k : Int} {r : Int → Int} (hr : ∀ u, 0 ≤ r u) (hf : ∀ d, 0 ≤ d → ∀ u, 0 ≤ (f d).2 u) : ∀ (j : Nat) (u : Int), 0 ≤ (odf f c used k r j).2 u
  | 0, u => hr u
  | j + 1, u => by
    have e : odf f c used k r (j + 1) = if (j : Int) ≤ used ∧ (j : Int) < k ∧ c j + (f j).1 < (odf f c used k r j).1 then (c j + (f j).1, (f j).2) else odf f c used k r j := rfl
    rw [e]
    split
    · exact hf j (by omega) u
    · exact odf_nn hr hf j u
theorem opt_nn {A : Int → Int → Int} {k : Int} : ∀ (m : Nat) (v used : Int) (r : Int → Int), (∀ u, 0 ≤ r u) → ∀ u, 0 ≤ (opt A k m v used r).2 u
  | 0, _, _, _, hr, u => hr u
  | m + 1, v, used, r, hr, u => odf_nn hr (fun d d0 u => opt_nn m _ _ _ (fun w => by unfold updr; split; exact d0; exact hr w) u) 4 u
theorem Q_dialects {N : Int → Int} {h : am_H} {k w : Int} {P : Int → am_H → Prop} (O : OK N) (T : ST h N) (hf : am_ok (h 0 13 + 1)) (H : ∀ h1, QF N h h1 (dlA N k w) → P (dlA N k w) h1) : ∃ a_ h_, am_cd 17 228 [.inr (.inr 0), .inl k, .inl w] h (some (.inl a_)) h_ ∧ P a_ h_ := by
  obtain ⟨oL, oP, oF, oA, _⟩ := O
  have l0 := oL.1
  have A : OD (dst N (N 4)) := fun u v => dst_bd oF
  have bad : ¬ (1 ≤ k ∧ k ≤ 4 ∧ -1 ≤ w ∧ w < N 0) → am_ok (h 0 13 + 1) ∧ P (-100001) (am_up h 0 13 (h 0 13 + 1)) := fun q => by
    have e : dlA N k w = -100001 := by unfold dlA; rw [if_neg q]
    rw [e] at H
    exact ⟨hf, H _ (QF_e0 T (by decide))⟩
  refine e_At_dialects ?_
  rw [T.1.1, T.2.2.2.2.2]
  refine ⟨fun c => bad (by omega), fun c1 => ⟨fun c => bad (by omega), fun c2 => ⟨fun c => bad (by omega), fun c3 => ⟨fun c4 => ?_, fun c => bad (by omega)⟩⟩⟩⟩
  have r0 : dlA N k w = if N 0 = 0 then -100006 else if 10 < N 0 then -100003 else if w < 0 then (opt (dst N (N 4)) k (N 0).toNat 0 0 (fun _ => 0)).1 else (opt (dst N (N 4)) k (N 0).toNat 0 0 (fun _ => 0)).2 w := by unfold dlA; rw [if_pos ⟨c1, c2, c3, c4⟩]
  refine ⟨fun c5 => ⟨fun c6 => am_liftv (Nat.le_of_ble_eq_true rfl) (S_search oL oP oF oA c6 (by omega) c2 T.1 T.2.2.1 T.2.1 T.2.2.2.1 T.2.2.2.2.1 (fun h1 f1 m1 e1 w1 => ?_)), fun c6 => ?_⟩, fun c5 => ?_⟩
  · rw [if_neg c5, if_neg (by omega)] at r0
    have q : ∀ a, ¬ a < -99999 → QF N h h1 a := fun a na => QF_15 T m1 (fun p p1 p2 p3 p4 p5 p6 => f1 p p3 p4 p5 (by omega) (by omega) (by omega) (by omega) (by omega) (by omega)) (fun j _ => by rw [f1 0 (by decide) (by decide) (by decide) (by decide) (by decide) (by decide) (by decide) (by decide) (by decide)]) (by rw [f1 0 (by decide) (by decide) (by decide) (by decide) (by decide) (by decide) (by decide) (by decide) (by decide), if_neg na]; omega)
    refine ⟨fun c7 => ⟨by omega, ?_⟩, fun c7 => ?_⟩
    · rw [if_neg (by omega)] at r0
      have nn := opt_nn (A := dst N (N 4)) (k := k) (N 0).toNat 0 0 (fun _ => 0) (fun _ => Int.le_refl _) w
      rw [w1 w c7 c4]
      rw [r0] at H
      exact H h1 (q _ (by omega))
    · rw [if_pos c7] at r0
      have nn := opt_0 (k := k) A (N 0).toNat 0 0 (fun _ => 0) (Int.le_refl _)
      rw [e1]
      rw [r0] at H
      exact H h1 (q _ (by omega))
  · rw [if_neg c5, if_pos c6] at r0
    rw [r0] at H
    exact ⟨hf, H _ (QF_e0 T (by decide))⟩
  · rw [if_pos c5] at r0
    rw [r0] at H
    exact ⟨hf, H _ (QF_e0 T (by decide))⟩
theorem Q_Mdialects {N : Int → Int} {h : am_H} {k w : Int} {P : Int → am_H → Prop} (O : OK N) (eN : h 57 = N) (hf : am_ok (h 56 3 + 1)) (H : ∀ h1, QM h h1 (dlA N k w) → P (dlA N k w) h1) : ∃ a_ h_, am_cd 16 218 [.inr (.inr 56), .inl k, .inl w] h (some (.inl a_)) h_ ∧ P a_ h_ := by
  obtain ⟨oL, oP, oF, oA, _⟩ := O
  have l0 := oL.1
  have A : OD (dst N (N 4)) := fun u v => dst_bd oF
  have bad : ¬ (1 ≤ k ∧ k ≤ 4 ∧ -1 ≤ w ∧ w < N 0) → am_ok (h 56 3 + 1) ∧ P (-100001) (am_up h 56 3 (h 56 3 + 1)) := fun q => by
    have e : dlA N k w = -100001 := by unfold dlA; rw [if_neg q]
    rw [e] at H
    exact ⟨hf, H _ (QM_e0 (by decide))⟩
  refine e_Mo_dialects ?_
  rw [eN]
  refine ⟨fun c1 => ⟨by omega, fun c3 => ?_, fun c => bad (by omega)⟩, fun c => bad (by omega)⟩
  have r0 : dlA N k w = if N 0 = 0 then -100006 else if 10 < N 0 then -100003 else if w < 0 then (opt (dst N (N 4)) k (N 0).toNat 0 0 (fun _ => 0)).1 else (opt (dst N (N 4)) k (N 0).toNat 0 0 (fun _ => 0)).2 w := by unfold dlA; rw [if_pos (by omega)]
  refine ⟨fun c5 => ⟨fun c6 => am_liftv (Nat.le_of_ble_eq_true rfl) (S_MfindApart oL oP oF oA eN (fun h1 f1 w1 => ?_)), fun c6 => ?_⟩, fun c5 => ?_⟩
  · rw [if_neg c5, if_neg (by omega)] at r0
    have u1 : ∀ p, p ≠ 60 → p ≠ 61 → p ≠ 62 → p ≠ 69 → p ≠ 70 → h1 p = h p := f1
    have ub := opt_ub (A := dst N (N 4)) (k := k) A (by omega) (N 0).toNat 0 0 (fun _ => 0) (by omega) (by omega) (by omega)
    have nn := opt_0 (k := k) A (N 0).toNat 0 0 (fun _ => 0) (Int.le_refl _)
    have n2 := opt_nn (A := dst N (N 4)) (k := k) (N 0).toNat 0 0 (fun _ => 0) (fun _ => Int.le_refl _) w
    have e57 : h1 57 = N := (u1 57 (by decide) (by decide) (by decide) (by decide) (by decide)).trans eN
    refine am_liftv (d := 15) (D := 11 + 1) (by omega) (S_Mpart (A := dst N (N 4)) (nv := N 0) (k := k) A c6 (by omega) c1.2 (N 0).toNat 11 0 0 0 1000000 (fun _ => 0) (h1 72) _ _ (by omega) (by omega) (by omega) (by omega) (by omega) (by omega) (by omega) (by rw [up_ne (by decide), e57]) (fun a b a0 a1 b0 b1 => by rw [up_ne (by decide)]; exact w1 a b a0 a1 b0 b1) (fun a _ _ => by omega) ⟨.inl ⟨by rw [up_same, if_pos rfl], rfl⟩, fun a _ _ => by rw [up_ne (by decide)]⟩ (fun h3 p3 b3 => ?_))
    have ue : up0 1000000 (h1 72) 0 (opt (dst N (N 4)) k (N 0).toNat 0 0 (fun _ => 0)) = opt (dst N (N 4)) k (N 0).toNat 0 0 (fun _ => 0) := by
      unfold up0
      rw [if_pos (by omega)]
      show (0 + _, _) = _
      rw [Int.zero_add]
    rw [ue] at b3
    have e56 : ∀ j, j ≠ 21 → h3 56 j = h 56 j := fun j hj => by rw [p3.2.1 j hj, up_same, if_neg hj, u1 56 (by decide) (by decide) (by decide) (by decide) (by decide)]
    have q : ∀ a, ¬ a < -99999 → QM h h3 a := fun a na => QM_g (fun p p1 p2 => by rw [p3.1 p p1 (by omega) (by omega), up_ne p1]; exact u1 p (by omega) (by omega) (by omega) (by omega) (by omega)) (fun j _ j2 => e56 j (by omega)) (by rw [e56 3 (by decide), if_neg na]; omega)
    refine ⟨fun c7 => ⟨by omega, ?_⟩, fun c7 => ?_⟩
    · rw [if_neg (by omega)] at r0
      rw [b3.2 w c7 (by omega)]
      rw [r0] at H
      exact H h3 (q _ (by omega))
    · rw [if_pos c7] at r0
      have e25 : h3 56 21 = (opt (dst N (N 4)) k (N 0).toNat 0 0 (fun _ => 0)).1 := by rcases b3.1 with y | y <;> omega
      rw [e25]
      rw [r0] at H
      exact H h3 (q _ (by omega))
  · rw [if_neg c5, if_pos c6] at r0
    rw [r0] at H
    exact ⟨hf, H _ (QM_e0 (by decide))⟩
  · rw [if_pos c5] at r0
    rw [r0] at H
    exact ⟨hf, H _ (QM_e0 (by decide))⟩
