/-! spreading, seeds, distances, changes -/
theorem itr_in {N : Int → Int} : ∀ {n : Nat} {s r : Int}, itr N n s r → am_ok s → inn s (N 0) → am_ok r ∧ inn r (N 0)
  | 0, s, r, h, so, si => by
    have e : s = r := h
    rw [← e]; exact ⟨so, si⟩
  | n + 1, s, r, h, so, si => by
    obtain ⟨m, h1, h2⟩ := h
    refine itr_in h2 h1.1 (fun v v0 v1 k => ?_)
    rcases (h1.2 v v0 v1).mp k with z | z
    · exact si v v0 v1 z
    · exact z.1
noncomputable def spA (N : Int → Int) (s n : Int) : Int := @ite _ (inn s (N 0) ∧ 0 ≤ n ∧ n ≤ 30) (Classical.propDecidable _) (Classical.epsilon (itr N n.toNat s)) (-100001)
theorem Q_spread {N : Int → Int} {h : am_H} {s n : Int} {P : Int → am_H → Prop} (O : OK N) (so : am_ok s) (T : ST h N) (hf : am_ok (h 0 13 + 1)) (H : ∀ h1, QF N h h1 (spA N s n) → P (spA N s n) h1) : ∃ a_ h_, am_cd 5 213 [.inr (.inr 0), .inl s, .inl n] h (some (.inl a_)) h_ ∧ P a_ h_ := by
  have l0 := O.1.1
  have sh := shl_ok l0.1 l0.2
  have bad : ¬ (inn s (N 0) ∧ 0 ≤ n ∧ n ≤ 30) → am_ok (h 0 13 + 1) ∧ P (-100001) (am_up h 0 13 (h 0 13 + 1)) := fun k => by
    have e : spA N s n = -100001 := by unfold spA; rw [if_neg k]
    rw [e] at H
    exact ⟨hf, H _ (QF_e0 T (by decide))⟩
  refine e_At_spread ?_
  rw [T.1.1]
  refine ⟨by omega, fun c => ⟨fun c2 => bad (fun k => by omega), fun c2 => ⟨fun c3 => ?_, fun c3 => bad (fun k => by omega)⟩⟩, fun c => bad (fun k => c ((hasAll_iff l0.1 l0.2).mpr k.1))⟩
  have is := (hasAll_iff l0.1 l0.2).mp c
  refine am_liftv (Nat.le_of_ble_eq_true rfl) (S_survey O.1 T.1 (fun h1 f1 v1 => am_lifti (Nat.le_of_ble_eq_true rfl) (S_after O.1 (LR_of (f1 1 (by decide) (by decide)) (f1 2 (by decide) (by decide)) (f1 3 (by decide) (by decide)) (f1 4 (by decide) (by decide)) (f1 5 (by decide) (by decide)) T.1) v1 c3 (fun r hr => ?_))))
  have e : spA N s n = r := by
    unfold spA
    rw [if_pos ⟨is, c2, c3⟩]
    exact itr_one (Classical.epsilon_spec (p := itr N n.toNat s) ⟨r, hr⟩) hr
  have ri := itr_in hr so is
  have rb := inn_rng l0.2 ri.1 ri.2
  rw [e] at H
  exact H h1 (QF_g T (fun p p1 p2 p3 p4 => f1 p (by omega) (by omega)) (fun j _ => by rw [f1 0 (by decide) (by decide)]) (by rw [f1 0 (by decide) (by decide), if_neg (by omega)]; omega))
theorem Q_Mspread {N : Int → Int} {h : am_H} {s n : Int} {P : Int → am_H → Prop} (O : OK N) (so : am_ok s) (eN : h 57 = N) (hf : am_ok (h 56 3 + 1)) (H : ∀ h1, QM h h1 (spA N s n) → P (spA N s n) h1) : ∃ a_ h_, am_cd 4 200 [.inr (.inr 56), .inl s, .inl n] h (some (.inl a_)) h_ ∧ P a_ h_ := by
  have l0 := O.1.1
  have bad : ¬ (inn s (N 0) ∧ 0 ≤ n ∧ n ≤ 30) → am_ok (h 56 3 + 1) ∧ P (-100001) (am_up h 56 3 (h 56 3 + 1)) := fun k => by
    have e : spA N s n = -100001 := by unfold spA; rw [if_neg k]
    rw [e] at H
    exact ⟨hf, H _ (QM_e0 (by decide))⟩
  refine e_Mo_spread ?_
  rw [eN]
  refine ⟨fun c => bad (fun k => by have := inn_rng l0.2 so k.1; omega), fun c => ⟨fun c2 => bad (fun k => c2 ((shr0_iff so l0.1 l0.2).mpr k.1).2), fun c2 => ⟨fun c3 => am_lifti (Nat.le_of_ble_eq_true rfl) (S_MspreadTo O.1 eN so c3.2 (fun r hr => ?_)), fun c3 => bad (fun k => c3 k.2)⟩⟩⟩
  have is := (shr0_iff so l0.1 l0.2).mp ⟨c, c2⟩
  have e : spA N s n = r := by
    unfold spA
    rw [if_pos ⟨is, c3⟩]
    exact itr_one (Classical.epsilon_spec (p := itr N n.toNat s) ⟨r, hr⟩) hr
  have ri := itr_in hr so is
  have rb := inn_rng l0.2 ri.1 ri.2
  rw [e] at H
  exact H h (QM_same (by omega))
noncomputable def seA (N : Int → Int) (n : Int) : Int := if 0 ≤ n ∧ n ≤ 30 then (if Classical.epsilon (sds N n) < 0 then -100006 else Classical.epsilon (sds N n)) else -100001
theorem sds_b {N : Int → Int} {n r : Int} (h : sds N n r) : r = -1 ∨ 0 ≤ r := by
  rcases h with z | z
  · exact .inl z.1
  · exact .inr z.1
theorem Q_seeds {N : Int → Int} {h : am_H} {n : Int} {P : Int → am_H → Prop} (O : OK N) (T : ST h N) (hf : am_ok (h 0 13 + 1)) (H : ∀ h1, QF N h h1 (seA N n) → P (seA N n) h1) : ∃ a_ h_, am_cd 6 227 [.inr (.inr 0), .inl n] h (some (.inl a_)) h_ ∧ P a_ h_ := by
  have bad : ¬ (0 ≤ n ∧ n ≤ 30) → am_ok (h 0 13 + 1) ∧ P (-100001) (am_up h 0 13 (h 0 13 + 1)) := fun k => by
    have e : seA N n = -100001 := by unfold seA; rw [if_neg k]
    rw [e] at H
    exact ⟨hf, H _ (QF_e0 T (by decide))⟩
  refine e_At_seeds ⟨fun c => bad (by omega), fun c => ⟨fun c2 => am_lifti (Nat.le_of_ble_eq_true rfl) (S_fewest O.1 T.1 c2 (fun h1 r f1 hr => ?_)), fun c2 => bad (by omega)⟩⟩
  have er : Classical.epsilon (sds N n) = r := sds_one (Classical.epsilon_spec (p := sds N n) ⟨r, hr⟩) hr
  have rb := sds_b hr
  have e : seA N n = if r < 0 then -100006 else r := by unfold seA; rw [if_pos ⟨c, c2⟩, er]
  have q : ∀ a, ¬ a < -99999 → QF N h h1 a := fun a na => QF_g T (fun p p1 p2 p3 p4 => f1 p (by omega) (by omega)) (fun j _ => by rw [f1 0 (by decide) (by decide)]) (by rw [f1 0 (by decide) (by decide), if_neg na]; omega)
  refine ⟨fun k => ?_, fun k => ?_⟩
  · rw [if_neg (by omega)] at e
    rw [e] at H
    exact H h1 (q r (by omega))
  · rw [if_pos (by omega)] at e
    rw [e] at H
    exact ⟨by rw [f1 0 (by decide) (by decide)]; exact hf, H _ (QF_err (q 0 (by decide)) (by decide) (by decide))⟩
theorem Q_Mseeds {N : Int → Int} {h : am_H} {n : Int} {P : Int → am_H → Prop} (O : OK N) (eN : h 57 = N) (hf : am_ok (h 56 3 + 1)) (H : ∀ h1, QM h h1 (seA N n) → P (seA N n) h1) : ∃ a_ h_, am_cd 4 201 [.inr (.inr 56), .inl n] h (some (.inl a_)) h_ ∧ P a_ h_ := by
  have l0 := O.1.1
  have sh := shl_ok l0.1 l0.2
  refine e_Mo_seeds ?_
  rw [eN]
  refine ⟨fun c => ⟨by omega, L_Mseeds30 O.1 eN c.2 hf (fun hr => ?_) (fun r hr r0 => ?_) 0 (by omega) (by omega) (fun k s _ _ => by omega)⟩, fun c => ?_⟩
  · have er : Classical.epsilon (sds N n) = -1 := sds_one (Classical.epsilon_spec (p := sds N n) ⟨_, hr⟩) hr
    have e : seA N n = -100006 := by unfold seA; rw [if_pos c, er, if_pos (by decide)]
    rw [e] at H
    exact H _ (QM_e0 (by decide))
  · have er : Classical.epsilon (sds N n) = r := sds_one (Classical.epsilon_spec (p := sds N n) ⟨_, hr⟩) hr
    have e : seA N n = r := by unfold seA; rw [if_pos c, er, if_neg (by omega)]
    rw [e] at H
    exact H h (QM_same (by omega))
  · have e : seA N n = -100001 := by unfold seA; rw [if_neg c]
    rw [e] at H
    exact ⟨hf, H _ (QM_e0 (by decide))⟩
def diA (N : Int → Int) (a b d : Int) : Int := if 0 ≤ a ∧ a < N 0 ∧ 0 ≤ b ∧ b < N 0 ∧ 0 ≤ d ∧ d ≤ 999 then dst N d a b else -100001
theorem Q_distance {N : Int → Int} {h : am_H} {a b d : Int} {P : Int → am_H → Prop} (O : OK N) (T : ST h N) (hf : am_ok (h 0 13 + 1)) (H : ∀ h1, QF N h h1 (diA N a b d) → P (diA N a b d) h1) : ∃ a_ h_, am_cd 6 224 [.inr (.inr 0), .inl a, .inl b, .inl d] h (some (.inl a_)) h_ ∧ P a_ h_ := by
  obtain ⟨oL, oP, oF, oA, _⟩ := O
  have l0 := oL.1
  have bad : ¬ (0 ≤ a ∧ a < N 0 ∧ 0 ≤ b ∧ b < N 0 ∧ 0 ≤ d ∧ d ≤ 999) → am_ok (h 0 13 + 1) ∧ P (-100001) (am_up h 0 13 (h 0 13 + 1)) := fun k => by
    have e : diA N a b d = -100001 := by unfold diA; rw [if_neg k]
    rw [e] at H
    exact ⟨hf, H _ (QF_e0 T (by decide))⟩
  refine e_At_distance ?_
  rw [T.1.1]
  refine ⟨fun c => ⟨fun c2 => ⟨fun c3 => am_lifti (Nat.le_of_ble_eq_true rfl) (S_between oP oF oA c.1 (by omega) c2.1 (by omega) T.2.1 T.2.2.2.1 T.2.2.1 T.2.2.2.2.1 (fun h1 f1 m1 => ?_)), fun c3 => bad (by omega)⟩, fun c2 => bad (by omega)⟩, fun c => bad (by omega)⟩
  have e : diA N a b d = dst N d a b := by unfold diA; rw [if_pos (by omega)]
  have db := dst_bd (N := N) (d := d) (u := a) (v := b) oF
  rw [e] at H
  have u : ∀ p, p ≠ 15 → p ≠ 16 → p ≠ 23 → p ≠ 34 → h1 p = h p := f1
  have u' : ∀ p, p < 15 ∨ (16 < p ∧ p < 23) → h1 p = h p := fun p hp => u p (by omega) (by omega) (by omega) (by omega)
  refine H h1 ⟨fun p hp => u p (by omega) (by omega) (by omega) (by omega), by rw [u 24 (by decide) (by decide) (by decide) (by decide)], ST_of (by rw [u' 0 (by decide)]) (u' _ (by decide)) (u' _ (by decide)) (u' _ (by decide)) (u' _ (by decide)) (u' _ (by decide)) (u' _ (by decide)) (u' _ (by decide)) (u' _ (by decide)) (u' _ (by decide)) (by rw [u' 11 (by decide)]) (u' _ (by decide)) (u' _ (by decide)) (fun _ => m1) (u' _ (by decide)) (u' _ (by decide)) (u' _ (by decide)) (u' _ (by decide)) (u' _ (by decide)) (u' _ (by decide)) T, ?_⟩
  rw [u' 0 (by decide), if_neg (by omega)]; omega
theorem Q_Mdistance {N : Int → Int} {h : am_H} {a b d : Int} {P : Int → am_H → Prop} (O : OK N) (eN : h 57 = N) (hf : am_ok (h 56 3 + 1)) (H : ∀ h1, QM h h1 (diA N a b d) → P (diA N a b d) h1) : ∃ a_ h_, am_cd 5 217 [.inr (.inr 56), .inl a, .inl b, .inl d] h (some (.inl a_)) h_ ∧ P a_ h_ := by
  obtain ⟨oL, oP, oF, oA, _⟩ := O
  have l0 := oL.1
  have bad : ¬ (0 ≤ a ∧ a < N 0 ∧ 0 ≤ b ∧ b < N 0 ∧ 0 ≤ d ∧ d ≤ 999) → am_ok (h 56 3 + 1) ∧ P (-100001) (am_up h 56 3 (h 56 3 + 1)) := fun k => by
    have e : diA N a b d = -100001 := by unfold diA; rw [if_neg k]
    rw [e] at H
    exact ⟨hf, H _ (QM_e0 (by decide))⟩
  refine e_Mo_distance ?_
  rw [eN]
  refine ⟨by omega, fun c => ⟨fun c2 => ⟨fun c3 => am_liftv (Nat.le_of_ble_eq_true rfl) (S_MfindApart oL oP oF oA eN (fun h1 f1 w1 => ⟨⟨by omega, by omega, by omega⟩, ?_⟩)), fun c3 => bad (by omega)⟩, fun c2 => bad (by omega)⟩, fun c => bad (by omega)⟩
  have e : diA N a b d = dst N d a b := by unfold diA; rw [if_pos (by omega)]
  have db := dst_bd (N := N) (d := d) (u := a) (v := b) oF
  rw [e] at H
  rw [w1 a b c.1 (by omega) c2.1 (by omega)]
  have u : ∀ p, p ≠ 60 → p ≠ 61 → p ≠ 62 → p ≠ 69 → p ≠ 70 → h1 p = h p := f1
  have e56 := u 56 (by decide) (by decide) (by decide) (by decide) (by decide)
  exact H h1 (QM_g (fun p p1 p2 => u p (by omega) (by omega) (by omega) (by omega) (by omega)) (fun i _ _ => by rw [e56]) (by rw [e56, if_neg (by omega)]; omega))
