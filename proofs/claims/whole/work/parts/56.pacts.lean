/-! the pairs: the acts -/
theorem MH_f {c : Int} {h : am_H} {N : Int → Int} {n : Int} {K W B : Int → Int} {S : Int → Int → Int} {T : Int → Int → Int → Int} {m : Int → Int} (J : IV c h N n K W B S T m) {h1 : am_H} (f : ∀ p, 55 < p → h1 p = h p) : MH h1 n S := by
  have := J.2.1.2.1
  unfold MH at this ⊢
  rw [f 56 (by decide), f 58 (by decide)]
  exact this
theorem p_day {c : Int} {h : am_H} {N : Int → Int} {n : Int} {K W B : Int → Int} {S : Int → Int → Int} {T : Int → Int → Int → Int} {m : Int → Int} {d : Int} (J : IV c h N n K W B S T m) (c1 : c < 700) : pr2 156 121 [.inl d] c h := by
  have O := J.1.2.1
  have D := J.1.2.2.1
  have X := J.1.2.2.2
  have hf := IV_f J c1
  obtain ⟨n0, n6⟩ := J.2.1.2.2.1.1
  have C := J.2.1.1
  have M : ∀ {h1 : am_H}, (∀ p, 55 < p → h1 p = h p) → MH h1 n S := fun f => MH_f J f
  have l0 := O.2.2.1.1
  have l1 := O.1.1
  have l2 := O.2.1.1
  have l3 := O.2.2.2.1.1
  have o4 := O.2.2.2.2
  by_cases g : N 4 ≤ d ∧ d ≤ 999
  · exact pr_A (a := N 4) J c1 (OK_day O (by omega) g.2) (DF_g O.2.2.1 (dN_o (by decide)) (fun k k0 k1 => dN_o (by omega)) D) (UR_day O (by omega) g.2) (S_day O X n0 n6 C hf (fun z => absurd g z) (fun _ _ h1 q1 q2 q3 => ⟨rfl, q1, q2, q3⟩)) (fun h1 f eN hf1 MC => S_Mday O eN n0 n6 MC hf1 (fun z => absurd g z) (fun _ _ h2 q1 q2 q3 => ⟨rfl, q1, q2, q3⟩)) (by decide) (by decide)
  · exact pr_Q (a := -100001) J c1 (S_day O X n0 n6 C hf (fun _ => ⟨rfl, QF_e0 X (by decide)⟩) (fun g1 g2 => absurd ⟨g1, g2⟩ g)) (fun h1 f eN hf1 => S_Mday O eN n0 n6 (M f) hf1 (fun _ => ⟨rfl, QB_of (QM_e0 (by decide))⟩) (fun g1 g2 => absurd ⟨g1, g2⟩ g)) (by decide) (by decide)
theorem p_village {c : Int} {h : am_H} {N : Int → Int} {n : Int} {K W B : Int → Int} {S : Int → Int → Int} {T : Int → Int → Int → Int} {m : Int → Int} {x w : Int} (J : IV c h N n K W B S T m) (c1 : c < 700) : pr2 154 119 [.inl x, .inl w] c h := by
  have O := J.1.2.1
  have D := J.1.2.2.1
  have X := J.1.2.2.2
  have hf := IV_f J c1
  obtain ⟨n0, n6⟩ := J.2.1.2.2.1.1
  have C := J.2.1.1
  have M : ∀ {h1 : am_H}, (∀ p, 55 < p → h1 p = h p) → MH h1 n S := fun f => MH_f J f
  have l0 := O.2.2.1.1
  have l1 := O.1.1
  have l2 := O.2.1.1
  have l3 := O.2.2.2.1.1
  by_cases g : (0 ≤ x ∧ x ≤ 9999) ∧ 1 ≤ w ∧ w ≤ 999
  · by_cases z : N 0 = 12
    · exact pr_Q (a := -100005) J c1 (S_village O X n0 n6 C hf (fun z => absurd g z) (fun _ _ => ⟨rfl, QF_e0 X (by decide)⟩) (fun _ z2 => absurd z (by omega))) (fun h1 f eN hf1 => S_Mvillage O eN n0 n6 (M f) hf1 (fun z => absurd g z) (fun _ _ => ⟨rfl, QB_of (QM_e0 (by decide))⟩) (fun _ z2 => absurd z (by omega))) (by decide) (by decide)
    · have z2 : N 0 < 12 := by omega
      have DN : DF (vN N x w) := DF_g O.2.2.1 (by unfold vN; rw [updr_e, if_neg (by omega), updr_e, if_neg (by omega), updr_e, if_neg (by omega), updr_e, if_neg (by omega)]) (fun k k0 k1 => by unfold vN; rw [updr_e, if_neg (by omega), updr_e, if_neg (by omega), updr_e, if_neg (by omega), updr_e, if_neg (by omega)]) D
      exact pr_A (a := N 0) J c1 (OK_village O z2 g.1.1 g.1.2 g.2.1 g.2.2) DN (UR_village O z2 g.1.1 g.1.2 g.2.1 g.2.2) (S_village O X n0 n6 C hf (fun z => absurd g z) (fun _ w => absurd w z) (fun _ _ h1 q1 q2 q3 => ⟨rfl, q1, q2, q3⟩)) (fun h1 f eN hf1 MC => S_Mvillage O eN n0 n6 MC hf1 (fun z => absurd g z) (fun _ w => absurd w z) (fun _ _ h2 q1 q2 q3 => ⟨rfl, q1, q2, q3⟩)) (by decide) (by decide)
  · exact pr_Q (a := -100001) J c1 (S_village O X n0 n6 C hf (fun _ => ⟨rfl, QF_e0 X (by decide)⟩) (fun w _ => absurd w g) (fun w _ => absurd w g)) (fun h1 f eN hf1 => S_Mvillage O eN n0 n6 (M f) hf1 (fun _ => ⟨rfl, QB_of (QM_e0 (by decide))⟩) (fun w _ => absurd w g) (fun w _ => absurd w g)) (by decide) (by decide)
theorem p_road {c : Int} {h : am_H} {N : Int → Int} {n : Int} {K W B : Int → Int} {S : Int → Int → Int} {T : Int → Int → Int → Int} {m : Int → Int} {a b l : Int} (J : IV c h N n K W B S T m) (c1 : c < 700) : pr2 155 161 [.inl a, .inl b, .inl l] c h := by
  have O := J.1.2.1
  have D := J.1.2.2.1
  have X := J.1.2.2.2
  have hf := IV_f J c1
  obtain ⟨n0, n6⟩ := J.2.1.2.2.1.1
  have C := J.2.1.1
  have M : ∀ {h1 : am_H}, (∀ p, 55 < p → h1 p = h p) → MH h1 n S := fun f => MH_f J f
  have l0 := O.2.2.1.1
  have l1 := O.1.1
  have l2 := O.2.1.1
  have l3 := O.2.2.2.1.1
  by_cases g : (0 ≤ a ∧ a < N 0) ∧ (0 ≤ b ∧ b < N 0) ∧ 0 ≤ l ∧ l ≤ 99
  · by_cases z : a = b
    · exact pr_Q (a := -100003) J c1 (S_road O X n0 n6 C hf (fun z => absurd g z) (fun _ _ => ⟨rfl, QF_e0 X (by decide)⟩) (fun _ z2 => absurd z (z2))) (fun h1 f eN hf1 => S_Mroad O eN n0 n6 (M f) hf1 (fun z => absurd g z) (fun _ _ => ⟨rfl, QB_of (QM_e0 (by decide))⟩) (fun _ z2 => absurd z (z2))) (by decide) (by decide)
    · have z2 : a ≠ b := by exact z
      have DN : DF (rN N a b l) := DF_g O.2.2.1 (by unfold rN; rw [updr_e, if_neg (by omega), updr_e, if_neg (by omega)]) (fun k k0 k1 => by unfold rN; rw [updr_e, if_neg (by omega), updr_e, if_neg (by omega)]) D
      exact pr_A (a := N (46 + 12 * a + b)) J c1 (OK_road O g.1.1 g.1.2 g.2.1.1 g.2.1.2 z2 g.2.2.1 g.2.2.2) DN (UR_road O g.1.1 g.1.2 g.2.1.1 g.2.1.2 z2 g.2.2.1 g.2.2.2) (S_road O X n0 n6 C hf (fun z => absurd g z) (fun _ w => absurd w z) (fun _ _ h1 q1 q2 q3 => ⟨rfl, q1, q2, q3⟩)) (fun h1 f eN hf1 MC => S_Mroad O eN n0 n6 MC hf1 (fun z => absurd g z) (fun _ w => absurd w z) (fun _ _ h2 q1 q2 q3 => ⟨rfl, q1, q2, q3⟩)) (by decide) (by decide)
  · exact pr_Q (a := -100001) J c1 (S_road O X n0 n6 C hf (fun _ => ⟨rfl, QF_e0 X (by decide)⟩) (fun w _ => absurd w g) (fun w _ => absurd w g)) (fun h1 f eN hf1 => S_Mroad O eN n0 n6 (M f) hf1 (fun _ => ⟨rfl, QB_of (QM_e0 (by decide))⟩) (fun w _ => absurd w g) (fun w _ => absurd w g)) (by decide) (by decide)
theorem p_asked {c : Int} {h : am_H} {N : Int → Int} {n : Int} {K W B : Int → Int} {S : Int → Int → Int} {T : Int → Int → Int → Int} {m : Int → Int} {v k t : Int} (J : IV c h N n K W B S T m) (c1 : c < 700) : pr2 157 163 [.inl v, .inl k, .inl t] c h := by
  have O := J.1.2.1
  have D := J.1.2.2.1
  have X := J.1.2.2.2
  have hf := IV_f J c1
  obtain ⟨n0, n6⟩ := J.2.1.2.2.1.1
  have C := J.2.1.1
  have M : ∀ {h1 : am_H}, (∀ p, 55 < p → h1 p = h p) → MH h1 n S := fun f => MH_f J f
  have l0 := O.2.2.1.1
  have l1 := O.1.1
  have l2 := O.2.1.1
  have l3 := O.2.2.2.1.1
  by_cases g : (0 ≤ v ∧ v < N 0) ∧ (0 ≤ k ∧ k ≤ 3) ∧ 1 ≤ t ∧ t ≤ 9
  · by_cases z : N 1 = 20
    · exact pr_Q (a := -100005) J c1 (S_asked O X n0 n6 C hf (fun z => absurd g z) (fun _ _ => ⟨rfl, QF_e0 X (by decide)⟩) (fun _ z2 => absurd z (by omega))) (fun h1 f eN hf1 => S_Masked O eN n0 n6 (M f) hf1 (fun z => absurd g z) (fun _ _ => ⟨rfl, QB_of (QM_e0 (by decide))⟩) (fun _ z2 => absurd z (by omega))) (by decide) (by decide)
    · have z2 : N 1 < 20 := by omega
      have DN : DF (pN N v k t) := DF_g O.2.2.1 (by unfold pN; rw [updr_e, if_neg (by omega), updr_e, if_neg (by omega), updr_e, if_neg (by omega), updr_e, if_neg (by omega)]) (fun k k0 k1 => by unfold pN; rw [updr_e, if_neg (by omega), updr_e, if_neg (by omega), updr_e, if_neg (by omega), updr_e, if_neg (by omega)]) D
      exact pr_A (a := N 1) J c1 (OK_asked O z2 g.1.1 g.1.2 g.2.1.1 g.2.1.2 g.2.2.1 g.2.2.2) DN (UR_asked O z2 g.1.1 g.1.2 g.2.1.1 g.2.1.2 g.2.2.1 g.2.2.2) (S_asked O X n0 n6 C hf (fun z => absurd g z) (fun _ w => absurd w z) (fun _ _ h1 q1 q2 q3 => ⟨rfl, q1, q2, q3⟩)) (fun h1 f eN hf1 MC => S_Masked O eN n0 n6 MC hf1 (fun z => absurd g z) (fun _ w => absurd w z) (fun _ _ h2 q1 q2 q3 => ⟨rfl, q1, q2, q3⟩)) (by decide) (by decide)
  · exact pr_Q (a := -100001) J c1 (S_asked O X n0 n6 C hf (fun _ => ⟨rfl, QF_e0 X (by decide)⟩) (fun w _ => absurd w g) (fun w _ => absurd w g)) (fun h1 f eN hf1 => S_Masked O eN n0 n6 (M f) hf1 (fun _ => ⟨rfl, QB_of (QM_e0 (by decide))⟩) (fun w _ => absurd w g) (fun w _ => absurd w g)) (by decide) (by decide)
theorem p_answer {c : Int} {h : am_H} {N : Int → Int} {n : Int} {K W B : Int → Int} {S : Int → Int → Int} {T : Int → Int → Int → Int} {m : Int → Int} {w t g1 : Int} (J : IV c h N n K W B S T m) (c1 : c < 700) : pr2 158 166 [.inl w, .inl t, .inl g1] c h := by
  have O := J.1.2.1
  have D := J.1.2.2.1
  have X := J.1.2.2.2
  have hf := IV_f J c1
  obtain ⟨n0, n6⟩ := J.2.1.2.2.1.1
  have C := J.2.1.1
  have M : ∀ {h1 : am_H}, (∀ p, 55 < p → h1 p = h p) → MH h1 n S := fun f => MH_f J f
  have l0 := O.2.2.1.1
  have l1 := O.1.1
  have l2 := O.2.1.1
  have l3 := O.2.2.2.1.1
  by_cases g : (0 ≤ w ∧ w < N 1) ∧ (0 ≤ t ∧ t < 6) ∧ 0 ≤ g1 ∧ g1 < N 2
  · by_cases z : N 3 = 60
    · exact pr_Q (a := -100005) J c1 (S_answer O X n0 n6 C hf (fun z => absurd g z) (fun _ _ => ⟨rfl, QF_e0 X (by decide)⟩) (fun _ z2 => absurd z (by omega))) (fun h1 f eN hf1 => S_Manswer O eN n0 n6 (M f) hf1 (fun z => absurd g z) (fun _ _ => ⟨rfl, QB_of (QM_e0 (by decide))⟩) (fun _ z2 => absurd z (by omega))) (by decide) (by decide)
    · have z2 : N 3 < 60 := by omega
      have DN : DF (aN N w t g1) := DF_g O.2.2.1 (by unfold aN; rw [updr_e, if_neg (by omega), updr_e, if_neg (by omega), updr_e, if_neg (by omega), updr_e, if_neg (by omega), updr_e, if_neg (by omega), updr_e, if_neg (by omega)]) (fun k k0 k1 => by unfold aN; rw [updr_e, if_neg (by omega), updr_e, if_neg (by omega), updr_e, if_neg (by omega), updr_e, if_neg (by omega), updr_e, if_neg (by omega), updr_e, if_neg (by omega)]) D
      exact pr_A (a := N 3) J c1 (OK_answer O z2 g.1.1 g.1.2 g.2.1.1 g.2.1.2 g.2.2.1 g.2.2.2) DN (UR_answer O z2 g.1.1 g.1.2 g.2.1.1 g.2.1.2 g.2.2.1 g.2.2.2) (S_answer O X n0 n6 C hf (fun z => absurd g z) (fun _ w => absurd w z) (fun _ _ h1 q1 q2 q3 => ⟨rfl, q1, q2, q3⟩)) (fun h1 f eN hf1 MC => S_Manswer O eN n0 n6 MC hf1 (fun z => absurd g z) (fun _ w => absurd w z) (fun _ _ h2 q1 q2 q3 => ⟨rfl, q1, q2, q3⟩)) (by decide) (by decide)
  · exact pr_Q (a := -100001) J c1 (S_answer O X n0 n6 C hf (fun _ => ⟨rfl, QF_e0 X (by decide)⟩) (fun w _ => absurd w g) (fun w _ => absurd w g)) (fun h1 f eN hf1 => S_Manswer O eN n0 n6 (M f) hf1 (fun _ => ⟨rfl, QB_of (QM_e0 (by decide))⟩) (fun w _ => absurd w g) (fun w _ => absurd w g)) (by decide) (by decide)
theorem p_take {c : Int} {h : am_H} {N : Int → Int} {n : Int} {K W B : Int → Int} {S : Int → Int → Int} {T : Int → Int → Int → Int} {m : Int → Int} {a : Int} (J : IV c h N n K W B S T m) (c1 : c < 700) : pr2 159 125 [.inl a] c h := by
  have O := J.1.2.1
  have D := J.1.2.2.1
  have X := J.1.2.2.2
  have hf := IV_f J c1
  obtain ⟨n0, n6⟩ := J.2.1.2.2.1.1
  have C := J.2.1.1
  have M : ∀ {h1 : am_H}, (∀ p, 55 < p → h1 p = h p) → MH h1 n S := fun f => MH_f J f
  have l0 := O.2.2.1.1
  have l1 := O.1.1
  have l2 := O.2.1.1
  have l3 := O.2.2.2.1.1
  by_cases g : 0 ≤ a ∧ a < N 3
  · by_cases z : N (524 + 5 * a) ≠ -1
    · exact pr_Q (a := -100007) J c1 (S_take O X n0 n6 C hf (fun z => absurd g z) (fun _ _ => ⟨rfl, QF_e0 X (by decide)⟩) (fun _ z2 => absurd z (fun k => k z2))) (fun h1 f eN hf1 => S_Mtake O eN n0 n6 (M f) hf1 (fun z => absurd g z) (fun _ _ => ⟨rfl, QB_of (QM_e0 (by decide))⟩) (fun _ z2 => absurd z (fun k => k z2))) (by decide) (by decide)
    · have z2 : N (524 + 5 * a) = -1 := by exact Classical.not_not.mp z
      have DN : DF (tN N a) := DF_g O.2.2.1 (by unfold tN; rw [updr_e, if_neg (by omega)]) (fun k k0 k1 => by unfold tN; rw [updr_e, if_neg (by omega)]) D
      exact pr_A (a := 1) J c1 (OK_take O g.1 g.2) DN (UR_take O g.1 g.2 z2) (S_take O X n0 n6 C hf (fun z => absurd g z) (fun _ w => absurd w z) (fun _ _ h1 q1 q2 q3 => ⟨rfl, q1, q2, q3⟩)) (fun h1 f eN hf1 MC => S_Mtake O eN n0 n6 MC hf1 (fun z => absurd g z) (fun _ w => absurd w z) (fun _ _ h2 q1 q2 q3 => ⟨rfl, q1, q2, q3⟩)) (by decide) (by decide)
  · exact pr_Q (a := -100001) J c1 (S_take O X n0 n6 C hf (fun _ => ⟨rfl, QF_e0 X (by decide)⟩) (fun w _ => absurd w g) (fun w _ => absurd w g)) (fun h1 f eN hf1 => S_Mtake O eN n0 n6 (M f) hf1 (fun _ => ⟨rfl, QB_of (QM_e0 (by decide))⟩) (fun w _ => absurd w g) (fun w _ => absurd w g)) (by decide) (by decide)
