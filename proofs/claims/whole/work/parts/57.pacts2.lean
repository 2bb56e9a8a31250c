/-! the pairs: form, undo, sheets, texts -/
theorem QF_EF {N : Int → Int} {h h1 : am_H} {a : Int} (E : EF h h1) (S : ST h1 N) (q : a < -99999) : QF N h h1 a := ⟨fun p hp => E.1 p (by omega), by rw [E.1 24 (by decide)], S, by rw [E.2, if_pos q]⟩
theorem p_form {c : Int} {h : am_H} {N : Int → Int} {n : Int} {K W B : Int → Int} {S : Int → Int → Int} {T : Int → Int → Int → Int} {m : Int → Int} {s : Int} {y : Int64} (J : IV c h N n K W B S T m) (c1 : c < 700) : pr2 209 123 [.inl s, .inr (.inl y)] c h := by
  have O := J.1.2.1
  have D := J.1.2.2.1
  have X := J.1.2.2.2
  have hf := IV_f J c1
  obtain ⟨n0, n6⟩ := J.2.1.2.2.1.1
  have C := J.2.1.1
  have M : ∀ {h1 : am_H}, (∀ p, 55 < p → h1 p = h p) → MH h1 n S := fun f => MH_f J f
  have l0 := O.2.2.1.1
  have l1 := O.1.1
  have l2 := O.2.1.1
  have l3 := O.2.2.2.1.1
  rcases Classical.em (gd s y) with g | g
  · rcases Classical.em (fnd N s (byt y) (-1)) with w | w
    · have no : ∀ r, 0 ≤ r → fnd N s (byt y) r → False := fun r r0 hr => by have := fnd_one hr w; omega
      by_cases z : N 2 = 30
      · exact pr_Q (a := -100005) J c1 (S_form O X n0 n6 C hf (fun z => absurd g z) (fun _ _ _ h1 q1 q2 => ⟨rfl, QF_EF q1 q2 (by decide)⟩) (fun _ _ z2 => absurd z (by omega)) (fun _ r r0 hr => (no r r0 hr).elim)) (fun h1 f eN hf1 => S_Mform O eN n0 n6 (M f) hf1 (fun z => absurd g z) (fun _ _ _ => ⟨rfl, QB_of (QM_e0 (by decide))⟩) (fun _ _ z2 => absurd z (by omega)) (fun _ r r0 hr => (no r r0 hr).elim)) (by decide) (by decide)
      · have z2 : N 2 < 30 := by omega
        exact pr_A (a := N 2) J c1 (OK_form O z2 g) (DF_form O.2.2.1 z2 g w D) (UR_form O z2 g) (S_form O X n0 n6 C hf (fun z => absurd g z) (fun _ _ w => absurd w z) (fun _ _ _ h1 q1 q2 q3 => ⟨rfl, q1, q2, q3⟩) (fun _ r r0 hr => (no r r0 hr).elim)) (fun h1 f eN hf1 MC => S_Mform O eN n0 n6 MC hf1 (fun z => absurd g z) (fun _ _ w => absurd w z) (fun _ _ _ h2 q1 q2 q3 => ⟨rfl, q1, q2, q3⟩) (fun _ r r0 hr => (no r r0 hr).elim)) (by decide) (by decide)
    · obtain ⟨r, h1, A1, A2, A3, A4, A5, A6⟩ := S_form (P := fun b h1 => fnd N s (byt y) b ∧ 0 ≤ b ∧ AF h h1 ∧ CH h1 (n1 n) (psh n K 3) (psh n W 0) (psh n B 0) ∧ ST h1 N) O X n0 n6 C hf (fun z => absurd g z) (fun _ k => absurd k w) (fun _ k => absurd k w) (fun _ r r0 hr h1 q1 q2 q3 => ⟨hr, r0, q1, q2, q3⟩)
      exact pr_A (a := r) J c1 O D (UR_form0 O) ⟨r, h1, A1, rfl, A4, A5, A6⟩ (fun h1 f eN hf1 MC => S_Mform O eN n0 n6 MC hf1 (fun z => absurd g z) (fun _ k => absurd k w) (fun _ k => absurd k w) (fun _ r' _ hr h2 q1 q2 q3 => ⟨fnd_one hr A2, q1, q2, q3⟩)) (by decide) (by decide)
  · exact pr_Q (a := -100001) J c1 (S_form O X n0 n6 C hf (fun _ h1 q1 q2 => ⟨rfl, QF_EF q1 q2 (by decide)⟩) (fun w => absurd w g) (fun w => absurd w g) (fun w => absurd w g)) (fun h1 f eN hf1 => S_Mform O eN n0 n6 (M f) hf1 (fun _ => ⟨rfl, QB_of (QM_e0 (by decide))⟩) (fun w => absurd w g) (fun w => absurd w g) (fun w => absurd w g)) (by decide) (by decide)
theorem p_undo {c : Int} {h : am_H} {N : Int → Int} {n : Int} {K W B : Int → Int} {S : Int → Int → Int} {T : Int → Int → Int → Int} {m : Int → Int} (J : IV c h N n K W B S T m) (c1 : c < 700) : pr2 160 118 [] c h := by
  have O := J.1.2.1
  have D := J.1.2.2.1
  have X := J.1.2.2.2
  have hf := IV_f J c1
  obtain ⟨n0, n6⟩ := J.2.1.2.2.1.1
  have C := J.2.1.1
  have M : ∀ {h1 : am_H}, (∀ p, 55 < p → h1 p = h p) → MH h1 n S := fun f => MH_f J f
  have l0 := O.2.2.1.1
  have l1 := O.1.1
  have l2 := O.2.1.1
  have l3 := O.2.2.2.1.1
  by_cases z : n = 0
  · exact pr_Q (a := -100006) J c1 (S_undo O X C J.2.1.2.2.1 hf (fun _ => ⟨rfl, QF_e0 X (by decide)⟩) (fun w => absurd z (by omega))) (fun h1 f eN hf1 => S_Mundo n0 n6 (M f) hf1 (fun _ => ⟨rfl, QB_of (QM_e0 (by decide))⟩) (fun w => absurd z (by omega))) (by decide) (by decide)
  · have np : 0 < n := by omega
    obtain ⟨⟨j1, j2, j3, j4⟩, J2, J3, J4, J5, j6, j7, j8, j9, j10⟩ := J
    refine pr2_of (d2 := _) (a := n - 1) (R := fun h1 => AF h h1 ∧ CH h1 (n - 1) K W B ∧ ST h1 (S (n - 1))) (S_undo O X C J2.2.2.1 hf (fun w => absurd w z) (fun _ h1 q1 q2 q3 => ⟨rfl, q1, q2, q3⟩)) (fun h1 q p hp => q.1.1 p (by omega) (by omega)) (fun h1 q f => S_Mundo n0 n6 (M f) (by rw [f 56 (by decide)]; omega) (fun w => absurd w z) (fun _ h2 a1 a2 a3 => ⟨rfl, ?_⟩)) (by decide) (by decide)
    obtain ⟨g1, g2⟩ := a1
    have e56 : h1 56 = h 56 := f 56 (by decide)
    have lo : ∀ p, (24 ≤ p ∧ p ≤ 30) ∨ (47 ≤ p ∧ p < 51) → h2 p = h p := fun p hp => (g1 p (by omega) (by omega) (by omega)).trans (q.1.1 p (by omega) (by omega))
    have hi : ∀ p, 58 < p → h2 p = h p := fun p hp => (g1 p (by omega) (by omega) (by omega)).trans (f p (by omega))
    have ok1 := J2.2.2.1.2.1 (n - 1) (by omega) (by omega)
    have cp := CN_pop J2.2.2.1 np a3
    have df : DF (h2 57) := DF_g ok1.2.2.1 (a3 2 (by omega) (by omega)) (fun k k0 k1 => a3 k (by omega) (by omega)) (J2.2.2.2 (n - 1) (by omega) (by omega))
    refine ⟨⟨by rw [g1 1000 (by decide) (by decide) (by decide)], g1 2000 (by decide) (by decide) (by decide)⟩, h2 57, n - 1, K, W, B, S, T, m, ⟨rfl, cp.1, df, ST_cg ok1 (ag_sym a3) (ST_lo (fun p hp => g1 p (by omega) (by omega) (by omega)) q.2.2)⟩, ⟨?_, a2, cp.2, fun i i0 i1 => J2.2.2.2 i i0 (by omega)⟩, I3_of (lo 25 (by decide)) (hi 63 (by decide)) (by rw [lo 24 (by decide)]) (by rw [g2 14 (by decide), e56]) J3, I4_of (fun p p1 p2 => lo p (by omega)) (hi 64 (by decide)) (hi 65 (by decide)) J4, I5_of (fun p p1 p2 => lo p (by omega)) (fun p p1 p2 => hi p (by omega)) J5, ?_⟩
    · have z := q.2.1
      unfold CH at z ⊢
      rw [g1 51 (by decide) (by decide) (by decide), g1 52 (by decide) (by decide) (by decide), g1 53 (by decide) (by decide) (by decide), g1 54 (by decide) (by decide) (by decide)]
      exact z
    · have q13 := q.1.2
      have e3 : h2 56 3 = h 56 3 := by rw [g2 3 (by decide), e56]
      have e0 : h2 0 13 = h1 0 13 := by rw [g1 0 (by decide) (by decide) (by decide)]
      have ek : h2 1000 0 = h 1000 0 := by rw [hi 1000 (by decide)]
      unfold I6; omega
theorem pr_S {k1 k2 d1 d2 : Nat} {args : List am_V} {a : Int} {c : Int} {h : am_H} {N : Int → Int} {n : Int} {K W B : Int → Int} {S : Int → Int → Int} {T : Int → Int → Int → Int} {m : Int → Int} {w' z' c' : Int → Int} (J : IV c h N n K W B S T m) (c1 : c < 700) (zb : ∀ s, 0 ≤ s → s < 4 → 0 ≤ z' s ∧ z' s ≤ 20) (A : ∃ b h1, am_cd d1 k1 (.inr (.inr 0) :: args) h (some (.inl b)) h1 ∧ (b = a ∧ (∀ p, p ≠ 48 → p ≠ 49 → p ≠ 50 → h1 p = h p) ∧ h1 48 = w' ∧ h1 49 = z' ∧ h1 50 = c')) (Bb : ∀ h1, (∀ p, 55 < p → h1 p = h p) → am_ok (h1 56 3 + 1) → ∃ b h2, am_cd d2 k2 (.inr (.inr 56) :: args) h1 (some (.inl b)) h2 ∧ (b = a ∧ (∀ p, p ≠ 76 → p ≠ 77 → p ≠ 78 → p ≠ 79 → h2 p = h1 p) ∧ h2 76 = w' ∧ h2 77 = z' ∧ h2 78 = c')) (hd1 : d1 ≤ 17) (hd2 : d2 ≤ 17) : pr2 k1 k2 args c h := by
  refine pr2_of A (fun h1 q p hp => q.1 p (by omega) (by omega) (by omega)) (fun h1 q f => ?_) hd1 hd2
  obtain ⟨⟨j1, j2, j3, j4⟩, J2, J3, J4, J5, j6, j7, j8, j9, j10⟩ := J
  obtain ⟨b, h2, B1, B2, g1, g2, g3, g4⟩ := Bb h1 f (by rw [f 56 (by decide)]; omega)
  obtain ⟨q1, q2, q3, q4⟩ := q
  have e : ∀ p, (p < 48 ∨ (50 < p ∧ p < 76) ∨ 79 < p) → h2 p = h p := fun p hp => (g1 p (by omega) (by omega) (by omega) (by omega)).trans (q1 p (by omega) (by omega) (by omega))
  refine ⟨b, h2, B1, B2, ⟨by rw [g1 1000 (by decide) (by decide) (by decide) (by decide)], g1 2000 (by decide) (by decide) (by decide) (by decide)⟩, N, n, K, W, B, S, T, m, ⟨(e 57 (by decide)).trans j1, j2, j3, ST_lo (fun p hp => e p (by omega)) j4⟩, I2_of (fun p p1 p2 => e p (by omega)) (by rw [e 56 (by decide)]) (e 58 (by decide)) J2, I3_of (e 25 (by decide)) (e 63 (by decide)) (by rw [e 24 (by decide)]) (by rw [e 56 (by decide)]) J3, I4_of (fun p p1 p2 => e p (by omega)) (e 64 (by decide)) (e 65 (by decide)) J4, ⟨?_, ?_, ?_, fun s s0 s1 => by rw [g3]; exact zb s s0 s1⟩, ?_⟩
  · rw [g2, ← q2]; exact g1 48 (by decide) (by decide) (by decide) (by decide)
  · rw [g3, ← q3]; exact g1 49 (by decide) (by decide) (by decide) (by decide)
  · rw [g4, ← q4]; exact g1 50 (by decide) (by decide) (by decide) (by decide)
  · unfold I6; rw [e 0 (by decide), e 56 (by decide), e 1000 (by decide)]; omega
theorem p_sheet {c : Int} {h : am_H} {N : Int → Int} {n : Int} {K W B : Int → Int} {S : Int → Int → Int} {T : Int → Int → Int → Int} {m : Int → Int} {s b l : Int} (J : IV c h N n K W B S T m) (c1 : c < 700) : pr2 188 172 [.inl s, .inl b, .inl l] c h := by
  have O := J.1.2.1
  have D := J.1.2.2.1
  have X := J.1.2.2.2
  have hf := IV_f J c1
  obtain ⟨n0, n6⟩ := J.2.1.2.2.1.1
  have C := J.2.1.1
  have M : ∀ {h1 : am_H}, (∀ p, 55 < p → h1 p = h p) → MH h1 n S := fun f => MH_f J f
  have l0 := O.2.2.1.1
  have l1 := O.1.1
  have l2 := O.2.1.1
  have l3 := O.2.2.2.1.1
  have X5 : I5 h := J.2.2.2.2.1
  obtain ⟨s1, s2, s3, zb⟩ := X5
  rcases Classical.em ((0 ≤ s ∧ s < 4) ∧ isB b) with g | g
  · by_cases z : l < 0
    · exact pr_Q (a := -100003) J c1 (S_sheet s1 s2 s3 hf (fun w => absurd g w) (fun _ _ => ⟨rfl, QF_e0 X (by decide)⟩) (fun _ w => absurd w (by omega)) (fun _ w => absurd w (by omega))) (fun h1 f eN hf1 => S_Msheet (f 76 (by decide)) (f 77 (by decide)) (f 78 (by decide)) hf1 (fun w => absurd g w) (fun _ _ => ⟨rfl, QB_of (QM_e0 (by decide))⟩) (fun _ w => absurd w (by omega)) (fun _ w => absurd w (by omega))) (by decide) (by decide)
    · by_cases z2 : 20 < l
      · exact pr_Q (a := -100001) J c1 (S_sheet s1 s2 s3 hf (fun w => absurd g w) (fun _ w => absurd w z) (fun _ _ => ⟨rfl, QF_e0 X (by decide)⟩) (fun _ _ w => absurd w (by omega))) (fun h1 f eN hf1 => S_Msheet (f 76 (by decide)) (f 77 (by decide)) (f 78 (by decide)) hf1 (fun w => absurd g w) (fun _ w => absurd w z) (fun _ _ => ⟨rfl, QB_of (QM_e0 (by decide))⟩) (fun _ _ w => absurd w (by omega))) (by decide) (by decide)
      · exact pr_S (a := if b = 0 then 0 else l) (w' := updr (h 76) s b) (z' := updr (h 77) s (if b = 0 then 0 else l)) (c' := lyC (h 78) s) J c1 (fun t t0 t1 => by
          rw [updr_e]
          by_cases k : t = s
          · rw [if_pos k]; by_cases k2 : b = 0
            · rw [if_pos k2]; omega
            · rw [if_neg k2]; omega
          · rw [if_neg k]; exact zb t t0 t1) (S_sheet s1 s2 s3 hf (fun w => absurd g w) (fun _ w => absurd w z) (fun _ w => absurd w z2) (fun _ _ _ h1 q1 q2 q3 q4 => ⟨rfl, q1, q2, q3, q4⟩)) (fun h1 f hf1 => S_Msheet (f 76 (by decide)) (f 77 (by decide)) (f 78 (by decide)) hf1 (fun w => absurd g w) (fun _ w => absurd w z) (fun _ w => absurd w z2) (fun _ _ _ h2 q1 q2 q3 q4 => ⟨rfl, fun p p1 p2 p3 _ => q1 p p1 p2 p3, q2, q3, q4⟩)) (by decide) (by decide)
  · exact pr_Q (a := -100001) J c1 (S_sheet s1 s2 s3 hf (fun _ => ⟨rfl, QF_e0 X (by decide)⟩) (fun w => absurd w g) (fun w => absurd w g) (fun w => absurd w g)) (fun h1 f eN hf1 => S_Msheet (f 76 (by decide)) (f 77 (by decide)) (f 78 (by decide)) hf1 (fun _ => ⟨rfl, QB_of (QM_e0 (by decide))⟩) (fun w => absurd w g) (fun w => absurd w g) (fun w => absurd w g)) (by decide) (by decide)
theorem p_put {c : Int} {h : am_H} {N : Int → Int} {n : Int} {K W B : Int → Int} {S : Int → Int → Int} {T : Int → Int → Int → Int} {m : Int → Int} {s i v : Int} (J : IV c h N n K W B S T m) (c1 : c < 700) : pr2 111 173 [.inl s, .inl i, .inl v] c h := by
  have O := J.1.2.1
  have D := J.1.2.2.1
  have X := J.1.2.2.2
  have hf := IV_f J c1
  obtain ⟨n0, n6⟩ := J.2.1.2.2.1.1
  have C := J.2.1.1
  have M : ∀ {h1 : am_H}, (∀ p, 55 < p → h1 p = h p) → MH h1 n S := fun f => MH_f J f
  have l0 := O.2.2.1.1
  have l1 := O.1.1
  have l2 := O.2.1.1
  have l3 := O.2.2.2.1.1
  have X5 : I5 h := J.2.2.2.2.1
  obtain ⟨s1, s2, s3, zb⟩ := X5
  rcases Classical.em (0 ≤ s ∧ s < 4) with g | g
  · by_cases z : h 76 s = 0
    · exact pr_Q (a := -100002) J c1 (S_put s1 s2 s3 zb hf (fun w => absurd g w) (fun _ _ => ⟨rfl, QF_e0 X (by decide)⟩) (fun _ w => absurd z w) (fun _ w => absurd z w)) (fun h1 f eN hf1 => S_Mput (f 76 (by decide)) (f 77 (by decide)) (f 78 (by decide)) zb hf1 (fun w => absurd g w) (fun _ _ => ⟨rfl, QB_of (QM_e0 (by decide))⟩) (fun _ w => absurd z w) (fun _ w => absurd z w)) (by decide) (by decide)
    · by_cases z2 : 0 ≤ i ∧ i < h 77 s
      · exact pr_S (a := 0) (w' := h 76) (z' := h 77) (c' := updr (h 78) (20 * s + i) (trn (h 76 s) v)) J c1 zb (S_put s1 s2 s3 zb hf (fun w => absurd g w) (fun _ w => absurd w z) (fun _ _ w => absurd z2 w) (fun _ _ _ h1 q1 q2 => ⟨rfl, fun p _ _ p3 => q1 p p3, (q1 48 (by decide)).trans s1, (q1 49 (by decide)).trans s2, q2⟩)) (fun h1 f hf1 => S_Mput (f 76 (by decide)) (f 77 (by decide)) (f 78 (by decide)) zb hf1 (fun w => absurd g w) (fun _ w => absurd w z) (fun _ _ w => absurd z2 w) (fun _ _ _ h2 q1 q2 => ⟨rfl, fun p _ _ p3 _ => q1 p p3, (q1 76 (by decide)).trans (f 76 (by decide)), (q1 77 (by decide)).trans (f 77 (by decide)), q2⟩)) (by decide) (by decide)
      · exact pr_Q (a := -100001) J c1 (S_put s1 s2 s3 zb hf (fun w => absurd g w) (fun _ w => absurd w z) (fun _ _ _ => ⟨rfl, QF_e0 X (by decide)⟩) (fun _ _ w => absurd w z2)) (fun h1 f eN hf1 => S_Mput (f 76 (by decide)) (f 77 (by decide)) (f 78 (by decide)) zb hf1 (fun w => absurd g w) (fun _ w => absurd w z) (fun _ _ _ => ⟨rfl, QB_of (QM_e0 (by decide))⟩) (fun _ _ w => absurd w z2)) (by decide) (by decide)
  · exact pr_Q (a := -100001) J c1 (S_put s1 s2 s3 zb hf (fun _ => ⟨rfl, QF_e0 X (by decide)⟩) (fun w => absurd w g) (fun w => absurd w g) (fun w => absurd w g)) (fun h1 f eN hf1 => S_Mput (f 76 (by decide)) (f 77 (by decide)) (f 78 (by decide)) zb hf1 (fun _ => ⟨rfl, QB_of (QM_e0 (by decide))⟩) (fun w => absurd w g) (fun w => absurd w g) (fun w => absurd w g)) (by decide) (by decide)
theorem p_copy {c : Int} {h : am_H} {N : Int → Int} {n : Int} {K W B : Int → Int} {S : Int → Int → Int} {T : Int → Int → Int → Int} {m : Int → Int} {s a t b l : Int} (J : IV c h N n K W B S T m) (c1 : c < 700) (ao : am_ok a) (bo : am_ok b) (lo : am_ok l) : pr2 112 174 [.inl s, .inl a, .inl t, .inl b, .inl l] c h := by
  have O := J.1.2.1
  have D := J.1.2.2.1
  have X := J.1.2.2.2
  have hf := IV_f J c1
  obtain ⟨n0, n6⟩ := J.2.1.2.2.1.1
  have C := J.2.1.1
  have M : ∀ {h1 : am_H}, (∀ p, 55 < p → h1 p = h p) → MH h1 n S := fun f => MH_f J f
  have l0 := O.2.2.1.1
  have l1 := O.1.1
  have l2 := O.2.1.1
  have l3 := O.2.2.2.1.1
  have X5 : I5 h := J.2.2.2.2.1
  obtain ⟨s1, s2, s3, zb⟩ := X5
  rcases Classical.em ((0 ≤ s ∧ s < 4) ∧ 0 ≤ t ∧ t < 4) with g | g
  · rcases Classical.em (h 76 s = 0 ∨ h 76 t = 0) with z | z
    · exact pr_Q (a := -100002) J c1 (S_copy s1 s2 s3 zb hf (fun w => absurd g w) (fun _ _ => ⟨rfl, QF_e0 X (by decide)⟩) (fun _ w => absurd z w) (fun _ w => absurd z w) (fun _ w => absurd z w)) (fun h1 f eN hf1 => S_Mcopy (f 76 (by decide)) (f 77 (by decide)) (f 78 (by decide)) zb ao bo lo hf1 (fun w => absurd g w) (fun _ _ => ⟨rfl, QB_of (QM_e0 (by decide))⟩) (fun _ w => absurd z w) (fun _ w => absurd z w) (fun _ w => absurd z w)) (by decide) (by decide)
    · by_cases z3 : h 76 s = h 76 t
      · by_cases z2 : 0 ≤ a ∧ 0 ≤ b ∧ 0 ≤ l ∧ a + l ≤ h 77 s ∧ b + l ≤ h 77 t
        · exact pr_S (a := l) (w' := h 76) (z' := h 77) (c' := mvC (h 78) (20 * s + a) (20 * t + b) l) J c1 zb (S_copy s1 s2 s3 zb hf (fun w => absurd g w) (fun _ w => absurd w z) (fun _ _ w => absurd z3 w) (fun _ _ _ w => absurd z2 w) (fun _ _ _ _ h1 q1 q2 => ⟨rfl, fun p _ _ p3 => q1 p p3, (q1 48 (by decide)).trans s1, (q1 49 (by decide)).trans s2, q2⟩)) (fun h1 f hf1 => S_Mcopy (f 76 (by decide)) (f 77 (by decide)) (f 78 (by decide)) zb ao bo lo hf1 (fun w => absurd g w) (fun _ w => absurd w z) (fun _ _ w => absurd z3 w) (fun _ _ _ w => absurd z2 w) (fun _ _ _ _ h2 q1 q2 => ⟨rfl, fun p _ _ p3 p4 => q1 p p3 p4, (q1 76 (by decide) (by decide)).trans (f 76 (by decide)), (q1 77 (by decide) (by decide)).trans (f 77 (by decide)), q2⟩)) (by decide) (by decide)
        · exact pr_Q (a := -100001) J c1 (S_copy s1 s2 s3 zb hf (fun w => absurd g w) (fun _ w => absurd w z) (fun _ _ w => absurd z3 w) (fun _ _ _ _ => ⟨rfl, QF_e0 X (by decide)⟩) (fun _ _ _ w => absurd w z2)) (fun h1 f eN hf1 => S_Mcopy (f 76 (by decide)) (f 77 (by decide)) (f 78 (by decide)) zb ao bo lo hf1 (fun w => absurd g w) (fun _ w => absurd w z) (fun _ _ w => absurd z3 w) (fun _ _ _ _ => ⟨rfl, QB_of (QM_e0 (by decide))⟩) (fun _ _ _ w => absurd w z2)) (by decide) (by decide)
      · exact pr_Q (a := -100004) J c1 (S_copy s1 s2 s3 zb hf (fun w => absurd g w) (fun _ w => absurd w z) (fun _ _ _ => ⟨rfl, QF_e0 X (by decide)⟩) (fun _ _ w => absurd w z3) (fun _ _ w => absurd w z3)) (fun h1 f eN hf1 => S_Mcopy (f 76 (by decide)) (f 77 (by decide)) (f 78 (by decide)) zb ao bo lo hf1 (fun w => absurd g w) (fun _ w => absurd w z) (fun _ _ _ => ⟨rfl, QB_of (QM_e0 (by decide))⟩) (fun _ _ w => absurd w z3) (fun _ _ w => absurd w z3)) (by decide) (by decide)
  · exact pr_Q (a := -100001) J c1 (S_copy s1 s2 s3 zb hf (fun _ => ⟨rfl, QF_e0 X (by decide)⟩) (fun w => absurd w g) (fun w => absurd w g) (fun w => absurd w g) (fun w => absurd w g)) (fun h1 f eN hf1 => S_Mcopy (f 76 (by decide)) (f 77 (by decide)) (f 78 (by decide)) zb ao bo lo hf1 (fun _ => ⟨rfl, QB_of (QM_e0 (by decide))⟩) (fun w => absurd w g) (fun w => absurd w g) (fun w => absurd w g) (fun w => absurd w g)) (by decide) (by decide)
theorem pr_T {k1 k2 d1 d2 : Nat} {args : List am_V} {a : Int} {c : Int} {h : am_H} {N : Int → Int} {n : Int} {K W B : Int → Int} {S : Int → Int → Int} {T : Int → Int → Int → Int} {m : Int → Int} {R : am_H → Prop} (J : IV c h N n K W B S T m) (c1 : c < 700) (A : ∃ b h1, am_cd d1 k1 (.inr (.inr 0) :: args) h (some (.inl b)) h1 ∧ (b = a ∧ (∀ p, p < 24 ∨ 30 < p → h1 p = h p) ∧ R h1)) (Bb : ∀ h1, (∀ p, p < 24 ∨ 30 < p → h1 p = h p) → R h1 → (∀ p, 55 < p → h1 p = h p) → am_ok (h1 56 3 + 1) → ∃ b h2, am_cd d2 k2 (.inr (.inr 56) :: args) h1 (some (.inl b)) h2 ∧ (b = a ∧ (∀ p, p ≠ 56 → (p < 63 ∨ 66 < p) → h2 p = h1 p) ∧ (h2 56 2 = h1 56 2 ∧ h2 56 3 = h1 56 3) ∧ I3 h2 ∧ ∃ T' m', I4 h2 T' m')) (hd1 : d1 ≤ 17) (hd2 : d2 ≤ 17) : pr2 k1 k2 args c h := by
  refine pr2_of A (fun h1 q p hp => q.1 p (by omega)) (fun h1 q f => ?_) hd1 hd2
  obtain ⟨⟨j1, j2, j3, j4⟩, J2, J3, J4, J5, j6, j7, j8, j9, j10⟩ := J
  obtain ⟨b, h2, B1, B2, g1, ⟨g2, g3⟩, g4, T', m', g5⟩ := Bb h1 q.1 q.2 f (by rw [f 56 (by decide)]; omega)
  have e : ∀ p, (p < 24 ∨ (30 < p ∧ p < 56) ∨ (56 < p ∧ p < 63) ∨ 66 < p) → h2 p = h p := fun p hp => (g1 p (by omega) (by omega)).trans (q.1 p (by omega))
  refine ⟨b, h2, B1, B2, ⟨by rw [g1 1000 (by decide) (by decide)], g1 2000 (by decide) (by decide)⟩, N, n, K, W, B, S, T', m', ⟨(e 57 (by decide)).trans j1, j2, j3, ST_lo (fun p hp => e p (by omega)) j4⟩, I2_of (fun p p1 p2 => e p (by omega)) (by rw [g2, f 56 (by decide)]) (e 58 (by decide)) J2, g4, g5, I5_of (fun p p1 p2 => e p (by omega)) (fun p p1 p2 => e p (by omega)) J5, ?_⟩
  have e3 : h1 56 3 = h 56 3 := by rw [f 56 (by decide)]
  unfold I6; rw [e 0 (by decide), g3, e3, e 1000 (by decide)]; omega
theorem p_feed {c : Int} {h : am_H} {N : Int → Int} {n : Int} {K W B : Int → Int} {S : Int → Int → Int} {T : Int → Int → Int → Int} {m : Int → Int} {l : Int} {y : Int64} (J : IV c h N n K W B S T m) (c1 : c < 700) : pr2 109 128 [.inl l, .inr (.inl y)] c h := by
  have O := J.1.2.1
  have D := J.1.2.2.1
  have X := J.1.2.2.2
  have hf := IV_f J c1
  obtain ⟨n0, n6⟩ := J.2.1.2.2.1.1
  have C := J.2.1.1
  have M : ∀ {h1 : am_H}, (∀ p, 55 < p → h1 p = h p) → MH h1 n S := fun f => MH_f J f
  have l0 := O.2.2.1.1
  have l1 := O.1.1
  have l2 := O.2.1.1
  have l3 := O.2.2.2.1.1
  have X3 : I3 h := J.2.2.1
  have X4 : I4 h T m := J.2.2.2.1
  obtain ⟨s1, s2, s3, s4⟩ := X3
  rcases Classical.em (1 ≤ l ∧ l ≤ 8) with g | g
  · by_cases z : 80 < h 56 14 + l
    · exact pr_Q (a := -100005) J c1 (S_feed s1 s2 s3 s4 hf (fun w => absurd g w) (fun _ _ => ⟨rfl, QF_e0 X (by decide)⟩) (fun _ w => absurd w (by omega))) (fun h1 f eN hf1 => S_Mfeed (f 63 (by decide)) (by rw [f 56 (by decide)]) s3 s4 hf1 (fun w => absurd g w) (fun _ _ => ⟨rfl, QB_of (QM_e0 (by decide))⟩) (fun _ w => absurd w (by omega))) (by decide) (by decide)
    · exact pr_T (a := h 56 14 + l) (R := fun h1 => h1 24 1 = h 56 14 + l ∧ h1 25 = fdT (h 63) (h 56 14) l y ∧ ∀ p, 26 ≤ p → p ≤ 30 → h1 p = h p) J c1 (S_feed s1 s2 s3 s4 hf (fun w => absurd g w) (fun _ w => absurd w z) (fun _ _ h1 q1 _ q3 q4 => ⟨rfl, fun p hp => q1 p (by omega) (by omega), q3, q4, fun p p1 p2 => q1 p (by omega) (by omega)⟩)) (fun h1 fr r f hf1 => S_Mfeed (f 63 (by decide)) (by rw [f 56 (by decide)]) s3 s4 hf1 (fun w => absurd g w) (fun _ w => absurd w z) (fun _ _ h2 q1 q2 q3 q4 => ⟨rfl, fun p p1 p2 => q1 p p1 (by omega), ⟨q2 2 (by decide), q2 3 (by decide)⟩, ⟨by rw [q4, q1 25 (by decide) (by decide), r.2.1], by rw [q3, q1 24 (by decide) (by decide), r.1], by omega, by omega⟩, T, m, I4_of (fun p p1 p2 => (q1 p (by omega) (by omega)).trans (r.2.2 p p1 p2)) ((q1 64 (by decide) (by decide)).trans (f 64 (by decide))) ((q1 65 (by decide) (by decide)).trans (f 65 (by decide))) X4⟩)) (by decide) (by decide)
  · exact pr_Q (a := -100001) J c1 (S_feed s1 s2 s3 s4 hf (fun _ => ⟨rfl, QF_e0 X (by decide)⟩) (fun w => absurd w g) (fun w => absurd w g)) (fun h1 f eN hf1 => S_Mfeed (f 63 (by decide)) (by rw [f 56 (by decide)]) s3 s4 hf1 (fun _ => ⟨rfl, QB_of (QM_e0 (by decide))⟩) (fun w => absurd w g) (fun w => absurd w g)) (by decide) (by decide)
theorem p_text {c : Int} {h : am_H} {N : Int → Int} {n : Int} {K W B : Int → Int} {S : Int → Int → Int} {T : Int → Int → Int → Int} {m : Int → Int} {t : Int} (J : IV c h N n K W B S T m) (c1 : c < 700) : pr2 210 192 [.inl t] c h := by
  have O := J.1.2.1
  have D := J.1.2.2.1
  have X := J.1.2.2.2
  have hf := IV_f J c1
  obtain ⟨n0, n6⟩ := J.2.1.2.2.1.1
  have C := J.2.1.1
  have M : ∀ {h1 : am_H}, (∀ p, 55 < p → h1 p = h p) → MH h1 n S := fun f => MH_f J f
  have l0 := O.2.2.1.1
  have l1 := O.1.1
  have l2 := O.2.1.1
  have l3 := O.2.2.2.1.1
  have X3 : I3 h := J.2.2.1
  have X4 : I4 h T m := J.2.2.2.1
  obtain ⟨s1, s2, s3, s4⟩ := X3
  rcases Classical.em (0 ≤ t ∧ t < 4) with g | g
  · by_cases z : flp (h 63) (h 56 14) 0 0 0 = -1
    · refine pr_T (d2 := _) (a := -1) (R := fun h1 => ∃ l, 0 ≤ l ∧ l ≤ 12 ∧ psn (h 63) l.toNat = h 56 14 ∧ OT (TT (h 63)) l ∧ h1 24 1 = 0 ∧ h1 25 = h 63 ∧ TC h1 t l (TT (h 63)) ∧ ∀ u m T, 0 ≤ u → u ≠ t → m ≤ 12 → TC h u m T → TC h1 u m T) J c1 (S_text s1 s2 s3 s4 hf (fun w => absurd g w) (fun _ w => absurd z w) (fun _ _ h1 l l0 l1 l2 l3 q1 q2 q3 q4 q5 => ⟨rfl, fun p hp => q1 p (by omega) (by omega) (by omega) (by omega) (by omega) (by omega), l, l0, l1, l2, l3, q3, (q1 25 (by decide) (by decide) (by decide) (by decide) (by decide) (by decide)).trans s1, q4, q5⟩)) (fun h1 fr r f hf1 => S_Mtext (f 63 (by decide)) (by rw [f 56 (by decide)]) s3 s4 g.1 g.2 (fun h2 r _ _ _ w w0 => absurd z (by omega)) (fun h2 l' l0' l1' l2' q1 q2 q3 q4 q5 q6 _ => ⟨rfl, ?_⟩)) (by decide) (by decide)
      obtain ⟨l, l0, l1, l2, l3, r1, r2, r3, r4⟩ := r
      have el : l' = l := psn_inj l0' l0 (l2'.trans l2.symm)
      subst el
      refine ⟨fun p p1 p2 => q1 p p1 (by omega) (by omega) (by omega), ⟨q2 2 (by decide) (by decide), q2 3 (by decide) (by decide)⟩, ⟨?_, ?_, by omega, by omega⟩, fun u => if u = t then TT (h 63) else T u, fun u => if u = t then l' else m u, fun u u0 u1 => ?_⟩
      · rw [q1 25 (by decide) (by decide) (by decide) (by decide), r2, q1 63 (by decide) (by decide) (by decide) (by decide), f 63 (by decide)]
      · rw [q1 24 (by decide) (by decide) (by decide) (by decide), r1, q3]
      · dsimp only
        by_cases k : u = t
        · rw [if_pos k, if_pos k, k]
          exact ⟨TC_of (fun p p1 p2 => q1 p (by omega) (by omega) (by omega) (by omega)) r3, ⟨by rw [q4, if_pos rfl], q5⟩, l3, l0, l1⟩
        · rw [if_neg k, if_neg k]
          obtain ⟨x1, x2, x3, x4, x5⟩ := X4 u u0 u1
          refine ⟨TC_of (fun p p1 p2 => q1 p (by omega) (by omega) (by omega) (by omega)) (r4 u _ _ u0 k x5 x1), ⟨?_, fun c c0 c1 => ?_⟩, x3, x4, x5⟩
          · rw [q4, if_neg k, f 64 (by decide)]; exact x2.1
          · have y := x2.2 c c0 c1
            rw [q6 _ (by omega), q6 _ (by omega), q6 _ (by omega), q6 _ (by omega), f 65 (by decide)]
            exact y
    · exact pr_T (a := flp (h 63) (h 56 14) 0 0 0) (R := fun h1 => h1 24 1 = 0 ∧ h1 25 = h 63 ∧ ∀ p, 26 ≤ p → p ≤ 30 → h1 p = h p) J c1 (S_text s1 s2 s3 s4 hf (fun w => absurd g w) (fun _ _ h1 q1 _ q3 => ⟨rfl, fun p hp => q1 p (by omega), q3, (q1 25 (by decide)).trans s1, fun p p1 p2 => q1 p (by omega)⟩) (fun _ w => absurd w z)) (fun h1 fr r f hf1 => S_Mtext (f 63 (by decide)) (by rw [f 56 (by decide)]) s3 s4 g.1 g.2 (fun h2 r' q1 q2 q3 w w0 => ⟨w, fun p p1 p2 => q1 p p1 (by omega), ⟨q2 2 (by decide) (by decide), q2 3 (by decide) (by decide)⟩, ⟨by rw [q1 25 (by decide) (by decide), r.2.1, q1 63 (by decide) (by decide), f 63 (by decide)], by rw [q3, q1 24 (by decide) (by decide), r.1], by omega, by omega⟩, T, m, I4_of (fun p p1 p2 => (q1 p (by omega) (by omega)).trans (r.2.2 p p1 p2)) ((q1 64 (by decide) (by decide)).trans (f 64 (by decide))) ((q1 65 (by decide) (by decide)).trans (f 65 (by decide))) X4⟩) (fun h2 l _ _ _ _ _ _ _ _ _ w => absurd w z)) (by decide) (by decide)
  · exact pr_Q (a := -100001) J c1 (S_text s1 s2 s3 s4 hf (fun _ => ⟨rfl, QF_e0 X (by decide)⟩) (fun w => absurd w g) (fun w => absurd w g)) (fun h1 f eN hf1 => e_Mo_text ⟨fun w => absurd ⟨w.1, by omega⟩ g, fun _ => ⟨hf1, ⟨rfl, QB_of (QM_e0 (by decide))⟩⟩⟩) (by decide) (by decide)
