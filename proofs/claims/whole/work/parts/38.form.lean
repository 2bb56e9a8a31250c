/-! a form -/
theorem ST_F {h h1 : am_H} {N M : Int → Int} (O : OK N) (T : ST h N) (u : ∀ p, (0 < p ∧ p < 11) ∨ (17 ≤ p ∧ p ≤ 22) → h1 p = h p) (u0 : h1 0 12 = h 0 12) (e : ∀ k, (k < 250 ∧ k ≠ 2) ∨ 520 ≤ k → M k = N k) (F : FR h1 M) (X : MR h1 M) : ST h1 M := by
  obtain ⟨oL, oP, oF, oA, _⟩ := O
  obtain ⟨L, P, _, A, _, d⟩ := T
  refine ⟨LR_of (u _ (by decide)) (u _ (by decide)) (u _ (by decide)) (u _ (by decide)) (u _ (by decide)) (LR_g (e 0 (by omega)) oL.1.2 (fun k k0 k1 => e k (by omega)) L), PR_of (u _ (by decide)) (u _ (by decide)) (u _ (by decide)) (u _ (by decide)) (PR_g (e 1 (by omega)) oP.1.2 (fun k k0 k1 => e k (by omega)) P), F, AR_of (by rw [u 17 (by decide)]) (u _ (by decide)) (u _ (by decide)) (u _ (by decide)) (u _ (by decide)) (u _ (by decide)) (AR_g (e 3 (by omega)) oA.1.2 (fun k k0 k1 => e k (by omega)) A), X, ?_⟩
  rw [u0, e 4 (by omega)]; exact d
def gd (s : Int) (y : Int64) : Prop := 1 ≤ s ∧ s ≤ 8 ∧ ∀ i, 0 ≤ i → i < s → byt y i < 26
theorem fnd_cg {N : Int → Int} {n r : Int} {x y : Int → Int} (e : ∀ i, 0 ≤ i → i < n → x i = y i) (H : fnd N n x r) : fnd N n y r := by
  have e' : ∀ i, 0 ≤ i → i < n → y i = x i := fun i i0 i1 => (e i i0 i1).symm
  rcases H with ⟨h1, h2⟩ | ⟨h1, h2, h3, h4⟩
  · exact .inl ⟨h1, fun f f0 f1 k => h2 f f0 f1 (lk_cg e' k)⟩
  · exact .inr ⟨h1, h2, lk_cg e h3, fun g g0 g1 k => h4 g g0 g1 (lk_cg e' k)⟩
theorem S_read {h : am_H} {s : Int} {y : Int64} {P : Int → am_H → Prop} (H1 : gd s y → ∀ h1, (∀ p, p ≠ 11 → p ≠ 14 → h1 p = h p) → (∀ j, j ≠ 3 → h1 11 j = h 11 j) → h1 11 3 = s → (∀ i, 0 ≤ i → i < s → h1 14 i = byt y i) → P 1 h1) (H0 : ¬ gd s y → ∀ h1, (∀ p, p ≠ 14 → h1 p = h p) → P 0 h1) : ∃ a_ h_, am_cd 1 27 [.inr (.inr 11), .inl s, .inr (.inl y)] h (some (.inl a_)) h_ ∧ P a_ h_ := by
  have key : 1 ≤ s → s ≤ 8 → ∀ x4 h', 0 ≤ x4 → x4 ≤ s → (∀ p, p ≠ 14 → h' p = h p) → (∀ i, 0 ≤ i → i < x4 → h' 14 i = byt y i ∧ byt y i < 26) → am_x (am_cd 0) 27 (am_qi P) 0 16 [some (.inr (.inr 11)), some (.inl s), some (.inr (.inl y)), none, some (.inl x4)] [] h' := by
    intro s0 s1
    refine upto s (fun x4 ih h' a0 a1 a2 a3 => ?_)
    refine g_Forms_read_16 ⟨fun hc => H1 ⟨s0, s1, fun i i0 i1 => (a3 i i0 (by omega)).2⟩ _ (fun p p1 p2 => (up_ne p1).trans (a2 p p2)) (fun j j3 => by rw [up_same, if_neg j3, a2 11 (by decide)]) (by rw [up_same, if_pos rfl]) (fun i i0 i1 => by rw [up_ne (by decide)]; exact (a3 i i0 (by omega)).1), fun hc => ⟨⟨by omega, by omega⟩, fun c => ⟨by omega, ih hc _ (by omega) (by omega) (fun p hp => (up_ne hp).trans (a2 p hp)) (fun i i0 i1 => ?_)⟩, fun c => H0 (fun k => ?_) _ (fun p hp => (up_ne hp).trans (a2 p hp))⟩⟩
    · rw [up_same]
      by_cases q : i = x4
      · rw [if_pos q, q]; exact ⟨rfl, c⟩
      · rw [if_neg q]; exact a3 i i0 (by omega)
    · have := k.2.2 x4 a0 hc
      have c' : 26 ≤ byt y x4 := c
      omega
  refine e_Forms_read ⟨fun c => H0 (fun k => by have := k.1; omega) h (fun _ _ => rfl), fun c => ⟨fun c2 => key c c2 0 h (by omega) (by omega) (fun _ _ => rfl) (fun i _ _ => by omega), fun c2 => H0 (fun k => by have := k.2.1; omega) h (fun _ _ => rfl)⟩⟩
def fN (N : Int → Int) (s : Int) (y : Int64) : Int → Int := fun j => if j = 2 then N 2 + 1 else if j = 250 + 9 * N 2 then s else if 251 + 9 * N 2 ≤ j ∧ j < 251 + 9 * N 2 + s then byt y (j - (251 + 9 * N 2)) else N j
theorem fN_o {N : Int → Int} {s j : Int} {y : Int64} (q : j ≠ 2) (s1 : s ≤ 8) (q2 : j < 250 + 9 * N 2 ∨ 250 + 9 * N 2 + 9 ≤ j) : fN N s y j = N j := by
  unfold fN
  rw [if_neg q, if_neg (by omega), if_neg (by omega)]
theorem fN_2 {N : Int → Int} {s : Int} {y : Int64} : fN N s y 2 = N 2 + 1 := rfl
theorem fN_l {N : Int → Int} {s : Int} {y : Int64} (n0 : 0 ≤ N 2) : fN N s y (250 + 9 * N 2) = s := by
  unfold fN
  rw [if_neg (by omega), if_pos rfl]
theorem fN_s {N : Int → Int} {s i : Int} {y : Int64} (n0 : 0 ≤ N 2) (i0 : 0 ≤ i) (i1 : i < s) : fN N s y (251 + 9 * N 2 + i) = byt y i := by
  unfold fN
  rw [if_neg (by omega), if_neg (by omega), if_pos (by omega), show 251 + 9 * N 2 + i - (251 + 9 * N 2) = i by omega]
theorem OK_form {N : Int → Int} {s : Int} {y : Int64} (O : OK N) (nn : N 2 < 30) (g : gd s y) : OK (fN N s y) := by
  obtain ⟨L, P, F, A, D⟩ := O
  have f0 := F.1
  have s1 := g.2.1
  refine ⟨OL_g (fN_o (by omega) s1 (by omega)) (fun j j0 j1 => fN_o (by omega) s1 (by omega)) L, OP_g (by rw [fN_o (by omega) s1 (by omega)]; omega) (fN_o (by omega) s1 (by omega)) (fun j j0 j1 => fN_o (by omega) s1 (by omega)) P, ⟨by rw [fN_2]; omega, fun f f0' f1 => ?_⟩, OA_g (by rw [fN_o (by omega) s1 (by omega)]; omega) (by rw [fN_2]; omega) (fN_o (by omega) s1 (by omega)) (fun j j0 j1 => fN_o (by omega) s1 (by omega)) A, by rw [fN_o (by omega) s1 (by omega)]; exact D⟩
  rw [fN_2] at f1
  rcases (show f = N 2 ∨ f < N 2 by omega) with q | q
  · subst q
    rw [fN_l f0.1]
    refine ⟨⟨g.1, s1⟩, fun i i0 i1 => ?_⟩
    rw [fN_s f0.1 i0 i1]
    have := g.2.2 i i0 i1
    have := byt_bd y i
    omega
  · have k := F.2 f f0' q
    rw [fN_o (by omega) s1 (by omega)]
    refine ⟨k.1, fun i i0 i1 => ?_⟩
    rw [fN_o (by omega) s1 (by omega)]; exact k.2 i i0 i1
theorem fN_far {N : Int → Int} {s : Int} {y : Int64} (F : OF N) (s1 : s ≤ 8) {f g : Int} (f0 : 0 ≤ f) (f1 : f < N 2) (g0 : 0 ≤ g) (g1 : g < N 2) : far N f g = far (fN N s y) f g := by
  have b := F.1
  exact far_cg F f0 f1 g0 g1 (fun k k0 k1 => (fN_o (by omega) s1 (by omega)).symm)
theorem UR_form {N : Int → Int} {s : Int} {y : Int64} (O : OK N) (nn : N 2 < 30) (g : gd s y) : UR 3 0 1 (fN N s y) N := by
  refine ⟨fun z => by omega, fun _ => by omega, fun z => by omega, fun h t => ?_⟩
  have O' := OK_form O nn g
  have f0 := O.2.2.1.1
  have s1 := g.2.1
  have u : ∀ p, p ≠ 11 → uh 3 0 1 h p = h p := fun p hp => up_ne hp
  refine ST_F O' t (fun p hp => u p (by omega)) (by rw [u 0 (by decide)]) (fun j q => (fN_o (by omega) s1 (by omega)).symm) ⟨?_, fun f f0' f1 => ?_⟩ ?_
  · show am_up h 11 0 (h 11 0 - 1) 11 0 = N 2
    rw [up_same, if_pos rfl, t.2.2.1.1, fN_2]; omega
  · have k := t.2.2.1.2 f f0' (by rw [fN_2]; omega)
    have k2 := (O.2.2.1.2 f f0' f1).1
    rw [fN_o (by omega) s1 (by omega)] at k
    rw [u 12 (by decide), u 13 (by decide)]
    refine ⟨k.1, fun i i0 i1 => ?_⟩
    have := k.2 i i0 i1
    rw [fN_o (by omega) s1 (by omega)] at this
    exact this
  · intro f g' g0 g1 f1
    have := t.2.2.2.2.1 f g' g0 g1 (by rw [fN_2]; omega)
    rw [← fN_far O.2.2.1 s1 (by omega) f1 g0 (by omega)] at this
    rw [u 15 (by decide)]; exact this
theorem UR_form0 {N : Int → Int} (O : OK N) : UR 3 0 0 N N := by
  refine ⟨fun z => by omega, fun _ => by omega, fun z => by omega, fun h t => ?_⟩
  have u : ∀ p, p ≠ 11 → uh 3 0 0 h p = h p := fun p hp => up_ne hp
  refine ST_F O t (fun p hp => u p (by omega)) (by rw [u 0 (by decide)]) (fun j q => rfl) (FR_of ?_ (u _ (by decide)) (u _ (by decide)) t.2.2.1) (MR_of (u _ (by decide)) t.2.2.2.2.1)
  show am_up h 11 0 (h 11 0 - 0) 11 0 = h 11 0
  rw [up_same, if_pos rfl]; omega
theorem S_fillR {h : am_H} {p0 n0 : Nat} {a b x : Int} {P : am_H → Prop} (hal : ∀ h : am_H, am_al h p0 = some n0) (hlo : p0 < 1000) (hn : n0 < 10000) (a0 : 0 ≤ a) (ab : a ≤ b) (b1 : b ≤ (n0 : Int)) (H : ∀ h1, (∀ p, p ≠ p0 → h1 p = h p) → (∀ j, h1 p0 j = if a ≤ j ∧ j < b then x else h p0 j) → P h1) : ∃ h_, am_cd 2 137 [.inr (.inr p0), .inl a, .inl b, .inl x] h none h_ ∧ P h_ := by
  have key : ∀ x4 h', a ≤ x4 → x4 ≤ b → (∀ p, p ≠ p0 → h' p = h p) → (∀ j, h' p0 j = if a ≤ j ∧ j < x4 then x else h p0 j) → am_x (am_cd 1) 137 (am_qv P) 0 10 [some (.inr (.inr p0)), none, some (.inl b), some (.inl x), some (.inl x4)] [] h' := by
    refine upto b (fun x4 ih h' a1 a2 a3 a4 => ?_)
    refine g_Arrays_fillR_10 p0 n0 hal hlo ⟨fun hc => H h' a3 (fun j => by rw [a4 j, show x4 = b by omega]), fun hc => ⟨⟨by omega, by omega⟩, ih hc _ (by omega) (by omega) (fun p hp => (up_ne hp).trans (a3 p hp)) (fun j => ?_)⟩⟩
    rw [up_same, a4 j]
    by_cases q : j = x4
    · rw [if_pos q, if_pos (by omega)]
    · rw [if_neg q]
      by_cases q2 : a ≤ j ∧ j < x4
      · rw [if_pos q2, if_pos (by omega)]
      · rw [if_neg q2, if_neg (by omega)]
  refine e_Arrays_fillR p0 n0 hal hlo ⟨fun _ => ⟨fun _ => ⟨fun _ => key a h (by omega) ab (fun _ _ => rfl) (fun j => by rw [if_neg (by omega)]), fun c => by omega⟩, fun c => by omega⟩, fun c => by omega⟩
theorem S_addRead {h : am_H} {N : Int → Int} {s : Int} {y : Int64} {P : Int → am_H → Prop} (O : OK N) (T : ST h N) (nn : N 2 < 30) (g : gd s y) (e3 : h 11 3 = s) (e14 : ∀ i, 0 ≤ i → i < s → h 14 i = byt y i) (H : ∀ h1, (∀ p, p ≠ 11 → p ≠ 12 → p ≠ 13 → p ≠ 15 → h1 p = h p) → ST h1 (fN N s y) → P (N 2) h1) : ∃ a_ h_, am_cd 3 142 [.inr (.inr 11)] h (some (.inl a_)) h_ ∧ P a_ h_ := by
  have F := T.2.2.1
  have f0 := O.2.2.1.1
  have s0 := g.1
  have s1 := g.2.1
  have key : ∀ x1 h', 0 ≤ x1 → x1 ≤ s → (∀ p, p ≠ 12 → p ≠ 13 → h' p = h p) → (∀ f, h' 12 f = if f = N 2 then s else h 12 f) → (∀ j, h' 13 j = if 8 * N 2 ≤ j ∧ j < 8 * N 2 + x1 then byt y (j - 8 * N 2) else h 13 j) → am_x (am_cd 2) 142 (am_qi P) 0 15 [some (.inr (.inr 11)), some (.inl x1)] [] h' := by
    refine upto s (fun x1 ih h' a0 a1 a2 a3 a4 => ?_)
    refine g_Forms_addRead_15 ?_
    rw [a2 11 (by decide) (by decide), e3, F.1, a2 14 (by decide) (by decide)]
    refine ⟨fun hc => ⟨⟨by omega, by omega, by omega⟩, am_liftv (Nat.le_of_ble_eq_true rfl) (S_fillR (n0 := 900) (fun h => by with_unfolding_all rfl) (by decide) (by decide) (by omega) (by omega) (by omega) (fun h2 f2 w2 => ?_))⟩, fun hc => ⟨⟨by omega, by omega, by omega, by omega, by omega⟩, ih hc _ (by omega) (by omega) (fun p p1 p2 => (up_ne p2).trans (a2 p p1 p2)) (fun f => by rw [up_ne (by decide)]; exact a3 f) (fun j => ?_)⟩⟩
    · have e1 : x1 = s := by omega
      have e11 : h2 11 = h 11 := (f2 11 (by decide)).trans (a2 11 (by decide) (by decide))
      rw [e11, F.1]
      have u : ∀ p, p ≠ 11 → am_up h2 11 0 (N 2 + 1) p = h2 p := fun p hp => up_ne hp
      refine ⟨by omega, H _ (fun p p1 p2 p3 p4 => by rw [u p p1, f2 p p4, a2 p p2 p3]) (ST_F O T (fun p hp => by rw [u p (by omega), f2 p (by omega), a2 p (by omega) (by omega)]) (by rw [u 0 (by decide), f2 0 (by decide), a2 0 (by decide) (by decide)]) (fun j q => fN_o (by omega) s1 (by omega)) ⟨by rw [up_same, if_pos rfl, fN_2], fun f f0' f1 => ?_⟩ (fun f g' g0 g1 f1 => ?_))⟩
      · rw [fN_2] at f1
        rw [u 12 (by decide), f2 12 (by decide), a3 f, u 13 (by decide), f2 13 (by decide)]
        rcases (show f = N 2 ∨ f < N 2 by omega) with q | q
        · rw [if_pos q, q, fN_l f0.1]
          refine ⟨rfl, fun i i0 i1 => ?_⟩
          rw [a4, if_pos (by omega), fN_s f0.1 i0 i1, show 8 * N 2 + i - 8 * N 2 = i by omega]
        · have k := F.2 f f0' q
          have k2 := (O.2.2.1.2 f f0' q).1
          rw [if_neg (by omega), fN_o (by omega) s1 (by omega)]
          refine ⟨k.1, fun i i0 i1 => ?_⟩
          rw [a4, if_neg (by omega), fN_o (by omega) s1 (by omega)]; exact k.2 i i0 i1
      · rw [fN_2] at f1
        rw [u 15 (by decide), w2]
        rcases (show f = N 2 ∨ f < N 2 by omega) with q | q
        · rw [if_pos (by omega)]; exact .inl rfl
        · rw [if_neg (by omega), a2 15 (by decide) (by decide), ← fN_far O.2.2.1 s1 (by omega) q g0 (by omega)]
          exact T.2.2.2.2.1 f g' g0 g1 q
    · rw [up_same, a4 j, e14 x1 a0 hc]
      by_cases q : j = 8 * N 2 + x1
      · rw [if_pos q, if_pos (by omega), show j - 8 * N 2 = x1 by omega]
      · rw [if_neg q]
        by_cases q2 : 8 * N 2 ≤ j ∧ j < 8 * N 2 + x1
        · rw [if_pos q2, if_pos (by omega)]
        · rw [if_neg q2, if_neg (by omega)]
  refine e_Forms_addRead ?_
  rw [F.1, e3]
  exact ⟨by omega, key 0 _ (by omega) (by omega) (fun p p1 p2 => up_ne p1) (fun f => by rw [up_same]) (fun j => by rw [up_ne (by decide), if_neg (by omega)])⟩
def EF (h h1 : am_H) : Prop := (∀ p, 24 ≤ p → h1 p = h p) ∧ h1 0 13 = h 0 13 + 1
theorem S_form {h : am_H} {N : Int → Int} {n s : Int} {y : Int64} {K W B : Int → Int} {P : Int → am_H → Prop} (O : OK N) (T : ST h N) (n0 : 0 ≤ n) (n6 : n ≤ 6) (C : CH h n K W B) (hf : am_ok (h 0 13 + 1)) (H1 : ¬ gd s y → ∀ h1, EF h h1 → ST h1 N → P (-100001) h1) (H2 : gd s y → fnd N s (byt y) (-1) → N 2 = 30 → ∀ h1, EF h h1 → ST h1 N → P (-100005) h1) (H3 : gd s y → fnd N s (byt y) (-1) → N 2 < 30 → ∀ h1, AF h h1 → CH h1 (n1 n) (psh n K 3) (psh n W 0) (psh n B 1) → ST h1 (fN N s y) → P (N 2) h1) (H4 : gd s y → ∀ r, 0 ≤ r → fnd N s (byt y) r → ∀ h1, AF h h1 → CH h1 (n1 n) (psh n K 3) (psh n W 0) (psh n B 0) → ST h1 N → P r h1) : ∃ a_ h_, am_cd 5 209 [.inr (.inr 0), .inl s, .inr (.inl y)] h (some (.inl a_)) h_ ∧ P a_ h_ := by
  have f0 := O.2.2.1.1
  have st : ∀ h1, (∀ p, p ≠ 0 → p ≠ 11 → p ≠ 14 → h1 p = h p) → h1 0 12 = h 0 12 → h1 11 0 = h 11 0 → ST h1 N := fun h1 f e0 e1 => ST_of e0 (f _ (by decide) (by decide) (by decide)) (f _ (by decide) (by decide) (by decide)) (f _ (by decide) (by decide) (by decide)) (f _ (by decide) (by decide) (by decide)) (f _ (by decide) (by decide) (by decide)) (f _ (by decide) (by decide) (by decide)) (f _ (by decide) (by decide) (by decide)) (f _ (by decide) (by decide) (by decide)) (f _ (by decide) (by decide) (by decide)) e1 (f _ (by decide) (by decide) (by decide)) (f _ (by decide) (by decide) (by decide)) (MR_of (f _ (by decide) (by decide) (by decide))) (f _ (by decide) (by decide) (by decide)) (f _ (by decide) (by decide) (by decide)) (f _ (by decide) (by decide) (by decide)) (f _ (by decide) (by decide) (by decide)) (f _ (by decide) (by decide) (by decide)) (f _ (by decide) (by decide) (by decide)) T
  have er : ∀ h1 c, (∀ p, p ≠ 11 → p ≠ 14 → h1 p = h p) → h1 11 0 = h 11 0 → (∀ h2, EF h h2 → ST h2 N → P c h2) → am_ok (h1 0 13 + 1) ∧ P c (am_up h1 0 13 (h1 0 13 + 1)) := by
    intro h1 c f e1 k
    have z := f 0 (by decide) (by decide)
    rw [z]
    refine ⟨hf, k _ ⟨fun p hp => by rw [up_ne (by omega)]; exact f p (by omega) (by omega), by rw [up_same, if_pos rfl]⟩ (st _ (fun p p1 p2 p3 => by rw [up_ne p1]; exact f p p2 p3) (by rw [up_same, if_neg (by decide), z]) (by rw [up_ne (by decide)]; exact e1))⟩
  refine e_At_form (am_lifti (Nat.le_of_ble_eq_true rfl) (S_read (fun g h1 f1 g1 e1 w1 => ⟨fun _ => ?_, fun c => absurd c (by decide)⟩) (fun ng h1 f1 => ⟨fun c => absurd rfl c, fun _ => er h1 _ (fun p _ p2 => f1 p p2) (by rw [f1 11 (by decide)]) (H1 ng)⟩)))
  have T1 : ST h1 N := st h1 (fun p _ p2 p3 => f1 p p2 p3) (by rw [f1 0 (by decide) (by decide)]) (g1 0 (by decide))
  have C1 : CH h1 n K W B := CH_of (fun p p1 p2 => f1 p (by omega) (by omega)) C
  refine am_lifti (Nat.le_of_ble_eq_true rfl) (e_Forms_findRead ?_)
  rw [e1]
  refine am_lifti (Nat.le_of_ble_eq_true rfl) (S_find (k := 8) (fun h => by with_unfolding_all rfl) (by decide) (by decide) O.2.2.1 T1.2.2.1 (fun r hr => ?_))
  have hr' : fnd N s (byt y) r := fnd_cg w1 hr
  refine ⟨fun c => am_liftv (Nat.le_of_ble_eq_true rfl) (S_note n0 n6 C1 (fun h2 f2 c2 => ?_)), fun c => ?_⟩
  · have r0 : 0 ≤ r := by
      rcases hr' with z | z
      · exact absurd z.1 c
      · exact z.1
    refine H4 g r r0 hr' h2 ⟨fun p p1 p2 => ?_, ?_⟩ c2 (ST_note f2 T1)
    · rw [f2 p (by omega) (by omega) (by omega) (by omega)]; exact f1 p (by omega) (by omega)
    · rw [f2 0 (by decide) (by decide) (by decide) (by decide), f1 0 (by decide) (by decide)]
  · rw [c] at hr'
    rw [T1.2.2.1.1]
    refine ⟨fun c3 => am_liftv (Nat.le_of_ble_eq_true rfl) (S_note n0 n6 C1 (fun h2 f2 c2 => ?_)), fun c3 => er h1 _ f1 (g1 0 (by decide)) (H2 g hr' (by omega))⟩
    refine am_lifti (Nat.le_of_ble_eq_true rfl) (S_addRead O (ST_note f2 T1) c3 g (by rw [f2 11 (by decide) (by decide) (by decide) (by decide)]; exact e1) (fun i i0 i1 => by rw [f2 14 (by decide) (by decide) (by decide) (by decide)]; exact w1 i i0 i1) (fun h3 f3 t3 => ?_))
    refine H3 g hr' c3 h3 ⟨fun p p1 p2 => ?_, ?_⟩ (CH_of (fun p p1 p2 => f3 p (by omega) (by omega) (by omega) (by omega)) c2) t3
    · rw [f3 p (by omega) (by omega) (by omega) (by omega), f2 p (by omega) (by omega) (by omega) (by omega)]; exact f1 p (by omega) (by omega)
    · rw [f3 0 (by decide) (by decide) (by decide) (by decide), f2 0 (by decide) (by decide) (by decide) (by decide), f1 0 (by decide) (by decide)]
