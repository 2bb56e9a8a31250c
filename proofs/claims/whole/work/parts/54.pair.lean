/-! what holds between two calls of the law, and each call keeps it -/
def I1 (h : am_H) (N : Int → Int) : Prop := h 57 = N ∧ OK N ∧ DF N ∧ ST h N
def I2 (h : am_H) (n : Int) (K W B : Int → Int) (S : Int → Int → Int) (N : Int → Int) : Prop := CH h n K W B ∧ MH h n S ∧ CN n K W B S N ∧ ∀ i, 0 ≤ i → i < n → DF (S i)
def I3 (h : am_H) : Prop := h 25 = h 63 ∧ h 24 1 = h 56 14 ∧ 0 ≤ h 56 14 ∧ h 56 14 ≤ 80
def I4 (h : am_H) (T : Int → Int → Int → Int) (m : Int → Int) : Prop := ∀ t, 0 ≤ t → t < 4 → TC h t (m t) (T t) ∧ TM h t (m t) (T t) ∧ OT (T t) (m t) ∧ 0 ≤ m t ∧ m t ≤ 12
def I5 (h : am_H) : Prop := h 48 = h 76 ∧ h 49 = h 77 ∧ h 50 = h 78 ∧ ∀ s, 0 ≤ s → s < 4 → 0 ≤ h 77 s ∧ h 77 s ≤ 20
def I6 (c : Int) (h : am_H) : Prop := h 0 13 = h 56 3 ∧ 0 ≤ h 56 3 ∧ h 56 3 ≤ c ∧ 0 ≤ h 1000 0 ∧ h 1000 0 ≤ c
def IV (c : Int) (h : am_H) (N : Int → Int) (n : Int) (K W B : Int → Int) (S : Int → Int → Int) (T : Int → Int → Int → Int) (m : Int → Int) : Prop := I1 h N ∧ I2 h n K W B S N ∧ I3 h ∧ I4 h T m ∧ I5 h ∧ I6 c h
def II (c : Int) (h : am_H) : Prop := ∃ N n K W B S T m, IV c h N n K W B S T m
theorem I2_of {h h2 : am_H} {n : Int} {K W B : Int → Int} {S : Int → Int → Int} {N : Int → Int} (e : ∀ p, 51 ≤ p → p ≤ 54 → h2 p = h p) (e2 : h2 56 2 = h 56 2) (e58 : h2 58 = h 58) (J : I2 h n K W B S N) : I2 h2 n K W B S N := by
  refine ⟨?_, ?_, J.2.2⟩
  · unfold CH; rw [e 51 (by decide) (by decide), e 52 (by decide) (by decide), e 53 (by decide) (by decide), e 54 (by decide) (by decide)]; exact J.1
  · unfold MH; rw [e2, e58]; exact J.2.1
theorem I3_of {h h2 : am_H} (e1 : h2 25 = h 25) (e2 : h2 63 = h 63) (e3 : h2 24 1 = h 24 1) (e4 : h2 56 14 = h 56 14) (J : I3 h) : I3 h2 := by
  unfold I3; rw [e1, e2, e3, e4]; exact J
theorem TC_of {h h2 : am_H} {t m : Int} {T : Int → Int → Int} (e : ∀ p, 26 ≤ p → p ≤ 30 → h2 p = h p) (C : TC h t m T) : TC h2 t m T := by
  unfold TC; rw [e 26 (by decide) (by decide), e 27 (by decide) (by decide), e 28 (by decide) (by decide), e 29 (by decide) (by decide), e 30 (by decide) (by decide)]; exact C
theorem TM_of {h h2 : am_H} {t m : Int} {T : Int → Int → Int} (e1 : h2 64 = h 64) (e2 : h2 65 = h 65) (C : TM h t m T) : TM h2 t m T := by
  unfold TM; rw [e1, e2]; exact C
theorem I4_of {h h2 : am_H} {T : Int → Int → Int → Int} {m : Int → Int} (e : ∀ p, 26 ≤ p → p ≤ 30 → h2 p = h p) (e1 : h2 64 = h 64) (e2 : h2 65 = h 65) (J : I4 h T m) : I4 h2 T m := fun t t0 t1 => ⟨TC_of e (J t t0 t1).1, TM_of e1 e2 (J t t0 t1).2.1, (J t t0 t1).2.2⟩
theorem I5_of {h h2 : am_H} (e : ∀ p, 48 ≤ p → p ≤ 50 → h2 p = h p) (e2 : ∀ p, 76 ≤ p → p ≤ 78 → h2 p = h p) (J : I5 h) : I5 h2 := by
  unfold I5; rw [e 48 (by decide) (by decide), e 49 (by decide) (by decide), e 50 (by decide) (by decide), e2 76 (by decide) (by decide), e2 77 (by decide) (by decide), e2 78 (by decide) (by decide)]; exact J
theorem ST_lo {h h1 : am_H} {N : Int → Int} (e : ∀ p, p < 24 → h1 p = h p) (S : ST h N) : ST h1 N :=
  ST_of (by rw [e 0 (by decide)]) (e _ (by decide)) (e _ (by decide)) (e _ (by decide)) (e _ (by decide)) (e _ (by decide)) (e _ (by decide)) (e _ (by decide)) (e _ (by decide)) (e _ (by decide)) (by rw [e 11 (by decide)]) (e _ (by decide)) (e _ (by decide)) (MR_of (e _ (by decide))) (e _ (by decide)) (e _ (by decide)) (e _ (by decide)) (e _ (by decide)) (e _ (by decide)) (e _ (by decide)) S
def rok (h h1 : am_H) : Prop := h1 1000 1 = h 1000 1 ∧ h1 2000 = h 2000
def pr2 (k1 k2 : Nat) (args : List am_V) (c : Int) (h : am_H) : Prop := ∃ a h1, am_cd 17 k1 (.inr (.inr 0) :: args) h (some (.inl a)) h1 ∧ rok h h1 ∧ ∃ h2, am_cd 17 k2 (.inr (.inr 56) :: args) h1 (some (.inl a)) h2 ∧ rok h h2 ∧ II (c + 1) h2
theorem pr2_of {k1 k2 d1 d2 : Nat} {args : List am_V} {c a : Int} {h : am_H} {R : am_H → Prop} (A : ∃ b h1, am_cd d1 k1 (.inr (.inr 0) :: args) h (some (.inl b)) h1 ∧ (b = a ∧ R h1)) (F : ∀ h1, R h1 → ∀ p, 55 < p → h1 p = h p) (B : ∀ h1, R h1 → (∀ p, 55 < p → h1 p = h p) → ∃ b h2, am_cd d2 k2 (.inr (.inr 56) :: args) h1 (some (.inl b)) h2 ∧ (b = a ∧ rok h1 h2 ∧ II (c + 1) h2)) (hd1 : d1 ≤ 17) (hd2 : d2 ≤ 17) : pr2 k1 k2 args c h := by
  obtain ⟨b, h1, A1, rfl, A3⟩ := A
  have f := F h1 A3
  obtain ⟨b2, h2, B1, rfl, B3, B4⟩ := B h1 A3 f
  have r1 : rok h h1 := ⟨by rw [f 1000 (by decide)], f 2000 (by decide)⟩
  exact ⟨b2, h1, am_cd_le hd1 A1, r1, h2, am_cd_le hd2 B1, ⟨B3.1.trans r1.1, B3.2.trans r1.2⟩, B4⟩
theorem pr_Q {k1 k2 d1 d2 : Nat} {args : List am_V} {c a : Int} {h : am_H} {N : Int → Int} {n : Int} {K W B : Int → Int} {S : Int → Int → Int} {T : Int → Int → Int → Int} {m : Int → Int} (J : IV c h N n K W B S T m) (c1 : c < 700) (A : ∃ b h1, am_cd d1 k1 (.inr (.inr 0) :: args) h (some (.inl b)) h1 ∧ (b = a ∧ QF N h h1 a)) (Bb : ∀ h1, (∀ p, 55 < p → h1 p = h p) → h1 57 = N → am_ok (h1 56 3 + 1) → ∃ b h2, am_cd d2 k2 (.inr (.inr 56) :: args) h1 (some (.inl b)) h2 ∧ (b = a ∧ QB h1 h2 a)) (hd1 : d1 ≤ 17) (hd2 : d2 ≤ 17) : pr2 k1 k2 args c h := by
  refine pr2_of A (fun h1 q p hp => q.1 p (by omega)) (fun h1 q f => ?_) hd1 hd2
  obtain ⟨⟨j1, j2, j3, j4⟩, J2, J3, J4, J5, j6, j7, j8, j9, j10⟩ := J
  obtain ⟨b, h2, B1, B2, g1, ⟨g2, g3⟩, g4, g5, g6, g7⟩ := Bb h1 f ((f 57 (by decide)).trans j1) (by rw [f 56 (by decide)]; omega)
  refine ⟨b, h2, B1, B2, ⟨g5 1 (by decide), g1 2000 (by decide)⟩, N, n, K, W, B, S, T, m, ?_⟩
  have lo : ∀ p, (25 ≤ p ∧ p ≤ 30) ∨ (47 ≤ p ∧ p ≤ 54) → h2 p = h p := fun p hp => (g1 p (by omega)).trans (q.1 p (by omega))
  have hi : ∀ p, p = 57 ∨ p = 58 ∨ (63 ≤ p ∧ p ≤ 65) ∨ (76 ≤ p ∧ p ≤ 78) → h2 p = h p := fun p hp => (g1 p (by omega)).trans (f p (by omega))
  refine ⟨⟨(hi 57 (by decide)).trans j1, j2, j3, ST_lo (fun p hp => g1 p (by omega)) q.2.2.1⟩, I2_of (fun p p1 p2 => lo p (by omega)) (g2.trans (by rw [f 56 (by decide)])) (hi 58 (by decide)) J2, I3_of (lo 25 (by decide)) (hi 63 (by decide)) ((by rw [g1 24 (by decide)] : h2 24 1 = h1 24 1).trans q.2.1) (g3.trans (by rw [f 56 (by decide)])) J3, I4_of (fun p p1 p2 => lo p (by omega)) (hi 64 (by decide)) (hi 65 (by decide)) J4, I5_of (fun p p1 p2 => lo p (by omega)) (fun p p1 p2 => hi p (by omega)) J5, ?_⟩
  have q13 := q.2.2.2
  have e3 : h1 56 3 = h 56 3 := by rw [f 56 (by decide)]
  have e0 : h2 0 13 = h1 0 13 := by rw [g1 0 (by decide)]
  have ek : h1 1000 0 = h 1000 0 := by rw [f 1000 (by decide)]
  unfold I6
  by_cases z : a < -99999
  · rw [if_pos z] at q13 g4; omega
  · rw [if_neg z] at q13 g4; omega
theorem pr_A {k1 k2 d1 d2 : Nat} {args : List am_V} {c a k w b : Int} {h : am_H} {N N' : Int → Int} {n : Int} {K W B : Int → Int} {S : Int → Int → Int} {T : Int → Int → Int → Int} {m : Int → Int} (J : IV c h N n K W B S T m) (c1 : c < 700) (O' : OK N') (D' : DF N') (U : UR k w b N' N) (A : ∃ z h1, am_cd d1 k1 (.inr (.inr 0) :: args) h (some (.inl z)) h1 ∧ (z = a ∧ AF h h1 ∧ CH h1 (n1 n) (psh n K k) (psh n W w) (psh n B b) ∧ ST h1 N')) (Bb : ∀ h1, (∀ p, 55 < p → h1 p = h p) → h1 57 = N → am_ok (h1 56 3 + 1) → MH h1 n S → ∃ z h2, am_cd d2 k2 (.inr (.inr 56) :: args) h1 (some (.inl z)) h2 ∧ (z = a ∧ MAF h1 h2 ∧ MH h2 (n1 n) (psh n S N) ∧ h2 57 = N')) (hd1 : d1 ≤ 17) (hd2 : d2 ≤ 17) : pr2 k1 k2 args c h := by
  refine pr2_of A (fun h1 q p hp => q.1.1 p (by omega) (by omega)) (fun h1 q f => ?_) hd1 hd2
  obtain ⟨⟨j1, j2, j3, j4⟩, J2, J3, J4, J5, j6, j7, j8, j9, j10⟩ := J
  have e56 : h1 56 = h 56 := f 56 (by decide)
  obtain ⟨b2, h2, B1, B2, ⟨g1, g2⟩, g3, g4⟩ := Bb h1 f ((f 57 (by decide)).trans j1) (by rw [e56]; omega) (by unfold MH; rw [e56, f 58 (by decide)]; exact J2.2.1)
  refine ⟨b2, h2, B1, B2, ⟨by rw [g1 1000 (by decide) (by decide) (by decide)], g1 2000 (by decide) (by decide) (by decide)⟩, N', n1 n, psh n K k, psh n W w, psh n B b, psh n S N, T, m, ?_⟩
  have lo : ∀ p, (24 ≤ p ∧ p ≤ 30) ∨ (47 ≤ p ∧ p < 51) → h2 p = h p := fun p hp => (g1 p (by omega) (by omega) (by omega)).trans (q.1.1 p (by omega) (by omega))
  have hi : ∀ p, 58 < p → h2 p = h p := fun p hp => (g1 p (by omega) (by omega) (by omega)).trans (f p (by omega))
  have nn := J2.2.2.1.1
  refine ⟨⟨g4, O', D', ST_lo (fun p hp => g1 p (by omega) (by omega) (by omega)) q.2.2⟩, ⟨?_, g3, CN_psh J2.2.2.1 j2 U, ?_⟩, I3_of (lo 25 (by decide)) (hi 63 (by decide)) (by rw [lo 24 (by decide)]) (by rw [g2 14 (by decide), e56]) J3, I4_of (fun p p1 p2 => lo p (by omega)) (hi 64 (by decide)) (hi 65 (by decide)) J4, I5_of (fun p p1 p2 => lo p (by omega)) (fun p p1 p2 => hi p (by omega)) J5, ?_⟩
  · have z := q.2.1
    unfold CH at z ⊢
    rw [g1 51 (by decide) (by decide) (by decide), g1 52 (by decide) (by decide) (by decide), g1 53 (by decide) (by decide) (by decide), g1 54 (by decide) (by decide) (by decide)]
    exact z
  · intro i i0 i1
    unfold n1 at i1
    by_cases zn : n < 6
    · rw [if_pos zn] at i1
      by_cases zi : i = n
      · rw [psh_a zn zi]; exact j3
      · rw [psh_b zn zi]; exact J2.2.2.2 i i0 (by omega)
    · rw [if_neg zn] at i1
      by_cases zi : i = 5
      · rw [psh_c zn zi]; exact j3
      · rw [psh_d zn zi]; exact J2.2.2.2 (i + 1) (by omega) (by omega)
  · have q13 := q.1.2
    have e3 : h2 56 3 = h 56 3 := by rw [g2 3 (by decide), e56]
    have e0 : h2 0 13 = h1 0 13 := by rw [g1 0 (by decide) (by decide) (by decide)]
    have ek : h2 1000 0 = h 1000 0 := by rw [hi 1000 (by decide)]
    unfold I6; omega
