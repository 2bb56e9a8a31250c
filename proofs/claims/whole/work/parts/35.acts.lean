/-! acts: each one's new state, and that it may be undone -/
theorem OL_g {N M : Int → Int} (e0 : M 0 = N 0) (e : ∀ k, 10 ≤ k → k < 190 → M k = N k) (h : OL N) : OL M := by
  have h0 := h.1
  unfold OL
  rw [e0]
  refine ⟨h0, fun v v0 v1 => ?_, fun a b a0 a1 b0 b1 => ?_⟩
  · rw [e (10 + 3 * v) (by omega) (by omega), e (11 + 3 * v) (by omega) (by omega), e (12 + 3 * v) (by omega) (by omega)]; exact h.2.1 v v0 v1
  · rw [e (46 + 12 * a + b) (by omega) (by omega), e (46 + 12 * b + a) (by omega) (by omega)]; exact h.2.2 a b a0 a1 b0 b1
theorem OP_g {N M : Int → Int} (e0 : N 0 ≤ M 0) (e1 : M 1 = N 1) (e : ∀ k, 190 ≤ k → k < 250 → M k = N k) (h : OP N) : OP M := by
  have h0 := h.1
  unfold OP
  rw [e1]
  refine ⟨h0, fun w w0 w1 => ?_⟩
  have := h.2 w w0 w1
  rw [e (190 + 3 * w) (by omega) (by omega), e (191 + 3 * w) (by omega) (by omega), e (192 + 3 * w) (by omega) (by omega)]
  exact ⟨⟨this.1.1, by omega⟩, this.2⟩
theorem OF_g {N M : Int → Int} (e2 : M 2 = N 2) (e : ∀ k, 250 ≤ k → k < 520 → M k = N k) (h : OF N) : OF M := by
  have h0 := h.1
  unfold OF
  rw [e2]
  refine ⟨h0, fun f f0 f1 => ?_⟩
  have k := h.2 f f0 f1
  rw [e (250 + 9 * f) (by omega) (by omega)]
  refine ⟨k.1, fun i i0 i1 => ?_⟩
  rw [e (251 + 9 * f + i) (by omega) (by omega)]; exact k.2 i i0 i1
theorem OA_g {N M : Int → Int} (e1 : N 1 ≤ M 1) (e2 : N 2 ≤ M 2) (e3 : M 3 = N 3) (e : ∀ k, 520 ≤ k → k < 820 → M k = N k) (h : OA N) : OA M := by
  have h0 := h.1
  unfold OA
  rw [e3]
  refine ⟨h0, fun a a0 a1 => ?_⟩
  have k := h.2 a a0 a1
  rw [e (520 + 5 * a) (by omega) (by omega), e (521 + 5 * a) (by omega) (by omega), e (522 + 5 * a) (by omega) (by omega), e (523 + 5 * a) (by omega) (by omega), e (524 + 5 * a) (by omega) (by omega)]
  exact ⟨⟨k.1.1, by omega⟩, k.2.1, ⟨k.2.2.1.1, by omega⟩, k.2.2.2⟩
theorem LR_g {h : am_H} {N M : Int → Int} (e0 : M 0 = N 0) (b : N 0 ≤ 12) (e : ∀ k, 10 ≤ k → k < 190 → M k = N k) (H : LR h N) : LR h M := by
  unfold LR
  rw [e0]
  refine ⟨H.1, fun v v0 v1 => ?_, fun a b a0 a1 b0 b1 => ?_⟩
  · rw [e (10 + 3 * v) (by omega) (by omega), e (11 + 3 * v) (by omega) (by omega), e (12 + 3 * v) (by omega) (by omega)]; exact H.2.1 v v0 v1
  · rw [e (46 + 12 * a + b) (by omega) (by omega)]; exact H.2.2 a b a0 a1 b0 b1
theorem PR_g {h : am_H} {N M : Int → Int} (e1 : M 1 = N 1) (b : N 1 ≤ 20) (e : ∀ k, 190 ≤ k → k < 250 → M k = N k) (H : PR h N) : PR h M := by
  unfold PR
  rw [e1]
  refine ⟨H.1, fun w w0 w1 => ?_⟩
  rw [e (190 + 3 * w) (by omega) (by omega), e (191 + 3 * w) (by omega) (by omega), e (192 + 3 * w) (by omega) (by omega)]; exact H.2 w w0 w1
theorem FR_g {h : am_H} {N M : Int → Int} (e2 : M 2 = N 2) (F : OF N) (e : ∀ k, 250 ≤ k → k < 520 → M k = N k) (H : FR h N) : FR h M := by
  have b := F.1
  unfold FR
  rw [e2]
  refine ⟨H.1, fun f f0 f1 => ?_⟩
  have k := H.2 f f0 f1
  have k2 := (F.2 f f0 f1).1
  rw [e (250 + 9 * f) (by omega) (by omega)]
  refine ⟨k.1, fun i i0 i1 => ?_⟩
  rw [e (251 + 9 * f + i) (by omega) (by omega)]; exact k.2 i i0 i1
theorem AR_g {h : am_H} {N M : Int → Int} (e3 : M 3 = N 3) (b : N 3 ≤ 60) (e : ∀ k, 520 ≤ k → k < 820 → M k = N k) (H : AR h N) : AR h M := by
  unfold AR
  rw [e3]
  refine ⟨H.1, fun a a0 a1 => ?_⟩
  rw [e (520 + 5 * a) (by omega) (by omega), e (521 + 5 * a) (by omega) (by omega), e (522 + 5 * a) (by omega) (by omega), e (523 + 5 * a) (by omega) (by omega), e (524 + 5 * a) (by omega) (by omega)]; exact H.2 a a0 a1
theorem MR_g {h : am_H} {N M : Int → Int} (e2 : M 2 = N 2) (F : OF N) (e : ∀ k, 250 ≤ k → k < 520 → M k = N k) (H : MR h N) : MR h M := by
  have b := F.1
  intro f g g0 g1 f1
  rw [e2] at f1
  rw [← far_cg (M := M) F (by omega) f1 g0 (by omega) (fun k k0 k1 => (e k k0 (by omega)).symm)]
  exact H f g g0 g1 f1
theorem updr_e {r : Int → Int} {m v j : Int} : updr r m v j = if j = m then v else r j := rfl
def AF (h h1 : am_H) : Prop := (∀ p, 24 ≤ p → (p < 51 ∨ 54 < p) → h1 p = h p) ∧ h1 0 13 = h 0 13
/-- a day -/
def dN (N : Int → Int) (d : Int) : Int → Int := updr N 4 d
theorem dN_o {N : Int → Int} {d k : Int} (q : k ≠ 4) : dN N d k = N k := by unfold dN; rw [updr_e, if_neg q]
theorem OK_day {N : Int → Int} {d : Int} (O : OK N) (d0 : 0 ≤ d) (d1 : d ≤ 999) : OK (dN N d) := by
  obtain ⟨L, P, F, A, _⟩ := O
  refine ⟨OL_g (dN_o (by omega)) (fun k k0 k1 => dN_o (by omega)) L, OP_g (by rw [dN_o (by omega)]; omega) (dN_o (by omega)) (fun k k0 k1 => dN_o (by omega)) P, OF_g (dN_o (by omega)) (fun k k0 k1 => dN_o (by omega)) F, OA_g (by rw [dN_o (by omega)]; omega) (by rw [dN_o (by omega)]; omega) (dN_o (by omega)) (fun k k0 k1 => dN_o (by omega)) A, ?_⟩
  unfold dN; rw [updr_e, if_pos rfl]; exact ⟨d0, d1⟩
theorem ST_day {h : am_H} {N M : Int → Int} {d : Int} (O : OK N) (e : ∀ k, k ≠ 4 → M k = N k) (e4 : M 4 = d) (H : ST h N) : ST (am_up h 0 12 d) M := by
  obtain ⟨oL, oP, oF, oA, _⟩ := O
  obtain ⟨L, P, F, A, X, _⟩ := H
  have u : ∀ p, p ≠ 0 → am_up h 0 12 d p = h p := fun p hp => up_ne hp
  refine ⟨LR_of (u 1 (by decide)) (u 2 (by decide)) (u 3 (by decide)) (u 4 (by decide)) (u 5 (by decide)) (LR_g (e 0 (by omega)) oL.1.2 (fun k k0 k1 => e k (by omega)) L), PR_of (u _ (by decide)) (u _ (by decide)) (u _ (by decide)) (u _ (by decide)) (PR_g (e 1 (by omega)) oP.1.2 (fun k k0 k1 => e k (by omega)) P), FR_of (by rw [u 11 (by decide)]) (u _ (by decide)) (u _ (by decide)) (FR_g (e 2 (by omega)) oF (fun k k0 k1 => e k (by omega)) F), AR_of (by rw [u 17 (by decide)]) (u _ (by decide)) (u _ (by decide)) (u _ (by decide)) (u _ (by decide)) (u _ (by decide)) (AR_g (e 3 (by omega)) oA.1.2 (fun k k0 k1 => e k (by omega)) A), MR_of (u _ (by decide)) (MR_g (e 2 (by omega)) oF (fun k k0 k1 => e k (by omega)) X), ?_⟩
  rw [up_same, if_pos rfl, e4]
theorem UR_day {N : Int → Int} {d : Int} (O : OK N) (d0 : 0 ≤ d) (d1 : d ≤ 999) : UR 6 0 (N 4) (dN N d) N :=
  ⟨fun y => by omega, fun y => by omega, fun y => by omega, fun h s => ST_day (OK_day O d0 d1) (fun k q => (dN_o q).symm) rfl s⟩
theorem ST_note {h h1 : am_H} {N : Int → Int} (f : ∀ p, p ≠ 51 → p ≠ 52 → p ≠ 53 → p ≠ 54 → h1 p = h p) (H : ST h N) : ST h1 N := by
  have g : ∀ p, p < 51 → h1 p = h p := fun p hp => f p (by omega) (by omega) (by omega) (by omega)
  refine ST_of (by rw [g 0 (by decide)]) (g _ (by decide)) (g _ (by decide)) (g _ (by decide)) (g _ (by decide)) (g _ (by decide)) (g _ (by decide)) (g _ (by decide)) (g _ (by decide)) (g _ (by decide)) (by rw [g 11 (by decide)]) (g _ (by decide)) (g _ (by decide)) (MR_of (g _ (by decide))) (g _ (by decide)) (g _ (by decide)) (g _ (by decide)) (g _ (by decide)) (g _ (by decide)) (g _ (by decide)) H
theorem CH_of {h h1 : am_H} {n : Int} {K W B : Int → Int} (e : ∀ p, 51 ≤ p → p ≤ 54 → h1 p = h p) (H : CH h n K W B) : CH h1 n K W B := by
  unfold CH
  rw [e 51 (by decide) (by decide), e 52 (by decide) (by decide), e 53 (by decide) (by decide), e 54 (by decide) (by decide)]; exact H
theorem S_day {h : am_H} {N : Int → Int} {n d : Int} {K W B : Int → Int} {P : Int → am_H → Prop} (O : OK N) (T : ST h N) (n0 : 0 ≤ n) (n6 : n ≤ 6) (C : CH h n K W B) (hf : am_ok (h 0 13 + 1)) (H1 : ¬ (N 4 ≤ d ∧ d ≤ 999) → P (-100001) (am_up h 0 13 (h 0 13 + 1))) (H2 : N 4 ≤ d → d ≤ 999 → ∀ h1, AF h h1 → CH h1 (n1 n) (psh n K 6) (psh n W 0) (psh n B (N 4)) → ST h1 (dN N d) → P (N 4) h1) : ∃ a_ h_, am_cd 3 156 [.inr (.inr 0), .inl d] h (some (.inl a_)) h_ ∧ P a_ h_ := by
  have d4 := T.2.2.2.2.2
  have o4 := O.2.2.2.2
  refine e_At_day ?_
  rw [d4]
  refine ⟨fun c => ⟨fun c2 => am_liftv (Nat.le_of_ble_eq_true rfl) (S_note n0 n6 C (fun h1 f1 c1 => ?_)), fun c2 => ⟨hf, H1 (by omega)⟩⟩, fun c => ⟨hf, H1 (by omega)⟩⟩
  refine H2 c2 c.2 _ ⟨fun p p1 p2 => ?_, ?_⟩ (CH_of (fun p p1 p2 => up_ne (by omega)) c1) (ST_day O (fun k q => dN_o q) (by unfold dN; rw [updr_e, if_pos rfl]) (ST_note f1 T))
  · rw [up_ne (by omega)]; exact f1 p (by omega) (by omega) (by omega) (by omega)
  · rw [up_same, if_neg (by decide), f1 0 (by decide) (by decide) (by decide) (by decide)]
def MAF (h h1 : am_H) : Prop := (∀ p, p ≠ 56 → p ≠ 57 → p ≠ 58 → h1 p = h p) ∧ ∀ j, j ≠ 2 → h1 56 j = h 56 j
theorem MH_of {h h1 : am_H} {n : Int} {S : Int → Int → Int} (e : h1 56 = h 56) (e2 : h1 58 = h 58) (H : MH h n S) : MH h1 n S := by unfold MH; rw [e, e2]; exact H
theorem up_f {h : am_H} {p : Nat} {i v : Int} : am_up h p i v p = updr (h p) i v := by
  funext j
  rw [up_same]; rfl
theorem S_Mday {h : am_H} {N : Int → Int} {n d : Int} {S : Int → Int → Int} {P : Int → am_H → Prop} (O : OK N) (eN : h 57 = N) (n0 : 0 ≤ n) (n6 : n ≤ 6) (C : MH h n S) (hf : am_ok (h 56 3 + 1)) (H1 : ¬ (N 4 ≤ d ∧ d ≤ 999) → P (-100001) (am_up h 56 3 (h 56 3 + 1))) (H2 : N 4 ≤ d → d ≤ 999 → ∀ h1, MAF h h1 → MH h1 (n1 n) (psh n S N) → h1 57 = dN N d → P (N 4) h1) : ∃ a_ h_, am_cd 2 121 [.inr (.inr 56), .inl d] h (some (.inl a_)) h_ ∧ P a_ h_ := by
  refine e_Mo_day ?_
  rw [eN]
  refine ⟨fun c => am_liftv (Nat.le_of_ble_eq_true rfl) (S_Mkeep n0 n6 C (fun h1 f1 g1 c1 => ?_)), fun c => ⟨hf, H1 c⟩⟩
  have e57 : h1 57 = N := (f1 57 (by decide) (by decide)).trans eN
  rw [eN] at c1
  rw [e57]
  refine H2 c.1 c.2 _ ⟨fun p p1 p2 p3 => (up_ne p2).trans (f1 p p1 p3), fun j j2 => by rw [up_ne (by decide)]; exact g1 j j2⟩ (MH_of (up_ne (by decide)) (up_ne (by decide)) c1) ?_
  rw [up_f, e57]; rfl
/-- a village -/
def vN (N : Int → Int) (x f : Int) : Int → Int := updr (updr (updr (updr N 0 (N 0 + 1)) (10 + 3 * N 0) (x / 100)) (11 + 3 * N 0) (x % 100)) (12 + 3 * N 0) f
theorem vN_e {N : Int → Int} {x f k : Int} : vN N x f k = if k = 12 + 3 * N 0 then f else if k = 11 + 3 * N 0 then x % 100 else if k = 10 + 3 * N 0 then x / 100 else if k = 0 then N 0 + 1 else N k := rfl
theorem vN_o {N : Int → Int} {x f k : Int} (q0 : k ≠ 0) (q : k < 10 + 3 * N 0 ∨ 12 + 3 * N 0 < k) : vN N x f k = N k := by
  rw [vN_e, if_neg (by omega), if_neg (by omega), if_neg (by omega), if_neg q0]
theorem vN_0 {N : Int → Int} {x f : Int} (n0 : 0 ≤ N 0) : vN N x f 0 = N 0 + 1 := by
  rw [vN_e, if_neg (by omega), if_neg (by omega), if_neg (by omega), if_pos rfl]
theorem OK_village {N : Int → Int} {x f : Int} (O : OK N) (nn : N 0 < 12) (x0 : 0 ≤ x) (x1 : x ≤ 9999) (f0 : 1 ≤ f) (f1 : f ≤ 999) : OK (vN N x f) := by
  obtain ⟨L, P, F, A, D⟩ := O
  have l0 := L.1
  have z0 := vN_0 (x := x) (f := f) l0.1
  refine ⟨⟨by rw [z0]; omega, fun v v0 v1 => ?_, fun a b a0 a1 b0 b1 => ?_⟩, OP_g (by rw [z0]; omega) (vN_o (by omega) (by omega)) (fun k k0 k1 => vN_o (by omega) (by omega)) P, OF_g (vN_o (by omega) (by omega)) (fun k k0 k1 => vN_o (by omega) (by omega)) F, OA_g (by rw [vN_o (by omega) (by omega)]; omega) (by rw [vN_o (by omega) (by omega)]; omega) (vN_o (by omega) (by omega)) (fun k k0 k1 => vN_o (by omega) (by omega)) A, by rw [vN_o (by omega) (by omega)]; exact D⟩
  · rw [z0] at v1
    rcases (show v = N 0 ∨ v < N 0 by omega) with q | q
    · subst q
      rw [vN_e, if_neg (by omega), if_neg (by omega), if_pos (by omega), vN_e, if_neg (by omega), if_pos (by omega), vN_e, if_pos (by omega)]
      omega
    · rw [vN_o (by omega) (by omega), vN_o (by omega) (by omega), vN_o (by omega) (by omega)]; exact L.2.1 v v0 q
  · rw [vN_o (by omega) (by omega), vN_o (by omega) (by omega), z0]
    have := L.2.2 a b a0 a1 b0 b1
    exact ⟨this.1, this.2.1, fun y => by have := this.2.2 y; omega⟩
theorem UR_village {N : Int → Int} {x f : Int} (O : OK N) (nn : N 0 < 12) (x0 : 0 ≤ x) (x1 : x ≤ 9999) (f0 : 1 ≤ f) (f1 : f ≤ 999) : UR 0 0 0 (vN N x f) N := by
  refine ⟨fun y => by omega, fun y => by omega, fun y => by omega, fun h s => ?_⟩
  have O' := OK_village O nn x0 x1 f0 f1
  obtain ⟨oL, oP, oF, oA, _⟩ := O'
  obtain ⟨L, P, F, A, X, d⟩ := s
  have l0 := O.1.1
  have z0 := vN_0 (N := N) (x := x) (f := f) l0.1
  have u : ∀ p, p ≠ 1 → uh 0 0 0 h p = h p := fun p hp => up_ne hp
  have e : ∀ k, k ≠ 0 → (k < 10 + 3 * N 0 ∨ 12 + 3 * N 0 < k) → N k = vN N x f k := fun k q q2 => (vN_o q q2).symm
  refine ⟨⟨?_, fun v v0 v1 => ?_, fun a b a0 a1 b0 b1 => ?_⟩, PR_of (u _ (by decide)) (u _ (by decide)) (u _ (by decide)) (u _ (by decide)) (PR_g (e 1 (by omega) (by omega)) oP.1.2 (fun k k0 k1 => e k (by omega) (by omega)) P), FR_of (by rw [u 11 (by decide)]) (u _ (by decide)) (u _ (by decide)) (FR_g (e 2 (by omega) (by omega)) oF (fun k k0 k1 => e k (by omega) (by omega)) F), AR_of (by rw [u 17 (by decide)]) (u _ (by decide)) (u _ (by decide)) (u _ (by decide)) (u _ (by decide)) (u _ (by decide)) (AR_g (e 3 (by omega) (by omega)) oA.1.2 (fun k k0 k1 => e k (by omega) (by omega)) A), MR_of (u _ (by decide)) (MR_g (e 2 (by omega) (by omega)) oF (fun k k0 k1 => e k (by omega) (by omega)) X), ?_⟩
  · show am_up h 1 0 (h 1 0 - 1) 1 0 = N 0
    rw [up_same, if_pos rfl, L.1, z0]; omega
  · rw [u 2 (by decide), u 3 (by decide), u 4 (by decide), e (10 + 3 * v) (by omega) (by omega), e (11 + 3 * v) (by omega) (by omega), e (12 + 3 * v) (by omega) (by omega)]
    exact L.2.1 v v0 (by omega)
  · rw [u 5 (by decide), e _ (by omega) (by omega)]; exact L.2.2 a b a0 a1 b0 b1
  · rw [u 0 (by decide), e 4 (by omega) (by omega)]; exact d
theorem S_village {h : am_H} {N : Int → Int} {n x f : Int} {K W B : Int → Int} {P : Int → am_H → Prop} (O : OK N) (T : ST h N) (n0 : 0 ≤ n) (n6 : n ≤ 6) (C : CH h n K W B) (hf : am_ok (h 0 13 + 1)) (H1 : ¬ ((0 ≤ x ∧ x ≤ 9999) ∧ 1 ≤ f ∧ f ≤ 999) → P (-100001) (am_up h 0 13 (h 0 13 + 1))) (H2 : ((0 ≤ x ∧ x ≤ 9999) ∧ 1 ≤ f ∧ f ≤ 999) → N 0 = 12 → P (-100005) (am_up h 0 13 (h 0 13 + 1))) (H3 : ((0 ≤ x ∧ x ≤ 9999) ∧ 1 ≤ f ∧ f ≤ 999) → N 0 < 12 → ∀ h1, AF h h1 → CH h1 (n1 n) (psh n K 0) (psh n W 0) (psh n B 0) → ST h1 (vN N x f) → P (N 0) h1) : ∃ a_ h_, am_cd 3 154 [.inr (.inr 0), .inl x, .inl f] h (some (.inl a_)) h_ ∧ P a_ h_ := by
  have l0 := O.1.1
  refine e_At_village ?_
  rw [T.1.1]
  refine ⟨fun c => ⟨hf, H1 (by omega)⟩, fun c1 => ⟨fun c => ⟨hf, H1 (by omega)⟩, fun c2 => ⟨fun c => ⟨hf, H1 (by omega)⟩, fun c3 => ⟨fun c4 => ⟨fun c5 => am_liftv (Nat.le_of_ble_eq_true rfl) (S_note n0 n6 C (fun h1 f1 w1 => ?_)), fun c5 => ⟨hf, H2 (by omega) (by omega)⟩⟩, fun c => ⟨hf, H1 (by omega)⟩⟩⟩⟩⟩
  have T1 := ST_note f1 T
  rw [T1.1.1]
  refine ⟨⟨by omega, by omega⟩, H3 (by omega) c5 _ ⟨fun p p1 p2 => ?_, ?_⟩ (CH_of (fun p p1 p2 => ?_) w1) ?_⟩
  · rw [up_ne (by omega), up_ne (by omega), up_ne (by omega), up_ne (by omega)]; exact f1 p (by omega) (by omega) (by omega) (by omega)
  · rw [up_ne (by decide), up_ne (by decide), up_ne (by decide), up_ne (by decide), f1 0 (by decide) (by decide) (by decide) (by decide)]
  · rw [up_ne (by omega), up_ne (by omega), up_ne (by omega), up_ne (by omega)]
  · obtain ⟨L, PP, F, A, X, d⟩ := T1
    obtain ⟨oL, oP, oF, oA, _⟩ := O
    have z0 := vN_0 (N := N) (x := x) (f := f) l0.1
    have e : ∀ k, k ≠ 0 → (k < 10 + 3 * N 0 ∨ 12 + 3 * N 0 < k) → vN N x f k = N k := fun k q q2 => vN_o q q2
    have u : ∀ p, p ≠ 1 → p ≠ 2 → p ≠ 3 → p ≠ 4 → am_up (am_up (am_up (am_up h1 2 (N 0) (x / 100)) 3 (N 0) (x % 100)) 4 (N 0) f) 1 0 (N 0 + 1) p = h1 p := fun p q1 q2 q3 q4 => by rw [up_ne q1, up_ne q4, up_ne q3, up_ne q2]
    have u' : ∀ p, 4 < p → am_up (am_up (am_up (am_up h1 2 (N 0) (x / 100)) 3 (N 0) (x % 100)) 4 (N 0) f) 1 0 (N 0 + 1) p = h1 p := fun p hp => u p (by omega) (by omega) (by omega) (by omega)
    refine ⟨⟨?_, fun v v0 v1 => ?_, fun a b a0 a1 b0 b1 => ?_⟩, PR_of (u' _ (by decide)) (u' _ (by decide)) (u' _ (by decide)) (u' _ (by decide)) (PR_g (e 1 (by omega) (by omega)) oP.1.2 (fun k k0 k1 => e k (by omega) (by omega)) PP), FR_of (by rw [u' 11 (by decide)]) (u' _ (by decide)) (u' _ (by decide)) (FR_g (e 2 (by omega) (by omega)) oF (fun k k0 k1 => e k (by omega) (by omega)) F), AR_of (by rw [u' 17 (by decide)]) (u' _ (by decide)) (u' _ (by decide)) (u' _ (by decide)) (u' _ (by decide)) (u' _ (by decide)) (AR_g (e 3 (by omega) (by omega)) oA.1.2 (fun k k0 k1 => e k (by omega) (by omega)) A), MR_of (u' _ (by decide)) (MR_g (e 2 (by omega) (by omega)) oF (fun k k0 k1 => e k (by omega) (by omega)) X), ?_⟩
    · rw [up_same, if_pos rfl, z0]
    · rw [up_ne (show (2 : Nat) ≠ 1 by decide), up_ne (show (2 : Nat) ≠ 4 by decide), up_ne (show (2 : Nat) ≠ 3 by decide), up_same, up_ne (show (3 : Nat) ≠ 1 by decide), up_ne (show (3 : Nat) ≠ 4 by decide), up_same, up_ne (show (3 : Nat) ≠ 2 by decide), up_ne (show (4 : Nat) ≠ 1 by decide), up_same, up_ne (show (4 : Nat) ≠ 3 by decide), up_ne (show (4 : Nat) ≠ 2 by decide)]
      rw [z0] at v1
      rcases (show v = N 0 ∨ v < N 0 by omega) with q | q
      · rw [if_pos q, if_pos q, if_pos q, vN_e, if_neg (by omega), if_neg (by omega), if_pos (by omega), vN_e, if_neg (by omega), if_pos (by omega), vN_e, if_pos (by omega)]
        exact ⟨rfl, rfl, rfl⟩
      · rw [if_neg (by omega), if_neg (by omega), if_neg (by omega), e _ (by omega) (by omega), e _ (by omega) (by omega), e _ (by omega) (by omega)]; exact L.2.1 v v0 q
    · rw [u' 5 (by decide), e _ (by omega) (by omega)]; exact L.2.2 a b a0 a1 b0 b1
    · rw [u 0 (by decide) (by decide) (by decide) (by decide), e 4 (by omega) (by omega)]; exact d
theorem S_Mvillage {h : am_H} {N : Int → Int} {n x f : Int} {S : Int → Int → Int} {P : Int → am_H → Prop} (O : OK N) (eN : h 57 = N) (n0 : 0 ≤ n) (n6 : n ≤ 6) (C : MH h n S) (hf : am_ok (h 56 3 + 1)) (H1 : ¬ ((0 ≤ x ∧ x ≤ 9999) ∧ 1 ≤ f ∧ f ≤ 999) → P (-100001) (am_up h 56 3 (h 56 3 + 1))) (H2 : ((0 ≤ x ∧ x ≤ 9999) ∧ 1 ≤ f ∧ f ≤ 999) → N 0 = 12 → P (-100005) (am_up h 56 3 (h 56 3 + 1))) (H3 : ((0 ≤ x ∧ x ≤ 9999) ∧ 1 ≤ f ∧ f ≤ 999) → N 0 < 12 → ∀ h1, MAF h h1 → MH h1 (n1 n) (psh n S N) → h1 57 = vN N x f → P (N 0) h1) : ∃ a_ h_, am_cd 2 119 [.inr (.inr 56), .inl x, .inl f] h (some (.inl a_)) h_ ∧ P a_ h_ := by
  have l0 := O.1.1
  refine e_Mo_village ?_
  rw [eN]
  refine ⟨fun c => ⟨fun c2 => ⟨fun c3 => am_liftv (Nat.le_of_ble_eq_true rfl) (S_Mkeep n0 n6 C (fun h1 f1 g1 c1 => ?_)), fun c3 => ⟨hf, H2 ⟨c, c2⟩ c3⟩⟩, fun c2 => ⟨hf, H1 (fun k => c2 k.2)⟩⟩, fun c => ⟨hf, H1 (fun k => c k.1)⟩⟩
  have e57 : h1 57 = N := (f1 57 (by decide) (by decide)).trans eN
  rw [eN] at c1
  rw [e57]
  refine ⟨⟨by omega, by omega, by omega, by omega, by omega, by omega, by omega, by omega, by omega⟩, ?_⟩
  have v57 : am_up (am_up (am_up (am_up h1 57 0 (N 0 + 1)) 57 (10 + 3 * N 0) (x / 100)) 57 (11 + 3 * N 0) (x % 100)) 57 (12 + 3 * N 0) f 57 = vN N x f := by
    rw [up_f, up_f, up_f, up_f, e57]; rfl
  have zr : ∀ a b, 0 ≤ a → a < 12 → 0 ≤ b → b < 12 → (a = N 0 ∨ b = N 0) → vN N x f (46 + 12 * a + b) = 0 := by
    intro a b a0 a1 b0 b1 q
    rw [vN_o (by omega) (by omega)]
    have := O.1.2.2 a b a0 a1 b0 b1
    rcases Int.lt_or_le 0 (N (46 + 12 * a + b)) with z | z
    · have := this.2.2 z; omega
    · omega
  have key : ∀ x4 h', 0 ≤ x4 → x4 ≤ 12 → (∀ p, p ≠ 57 → h' p = h1 p) → h' 57 = vN N x f → am_x (am_cd 1) 119 (am_qi P) 0 117 [some (.inr (.inr 56)), none, none, some (.inl (N 0)), some (.inl x4)] [] h' := by
    refine upto 12 (fun x4 ih h' a0 a1 a2 a3 => ?_)
    refine g_Mo_village_117 ⟨fun hc => H3 ⟨c, c2⟩ (by omega) h' ⟨fun p p1 p2 p3 => (a2 p p2).trans (f1 p p1 p3), fun j j2 => by rw [a2 56 (by decide)]; exact g1 j j2⟩ (MH_of (a2 56 (by decide)) (a2 58 (by decide)) c1) a3, fun hc => ⟨⟨by omega, by omega, by omega, by omega, by omega, by omega, by omega, by omega, by omega⟩, ih hc _ (by omega) (by omega) (fun p hp => by rw [up_ne hp, up_ne hp]; exact a2 p hp) ?_⟩⟩
    rw [up_f, up_f, a3]
    funext k
    rw [updr_e, updr_e]
    by_cases q : k = 46 + 12 * x4 + N 0
    · rw [if_pos q, q, zr x4 (N 0) a0 hc (by omega) (by omega) (.inr rfl)]
    · rw [if_neg q]
      by_cases q2 : k = 46 + 12 * N 0 + x4
      · rw [if_pos q2, q2, zr (N 0) x4 (by omega) (by omega) a0 hc (.inl rfl)]
      · rw [if_neg q2]
  refine key 0 _ (by omega) (by omega) (fun p hp => by rw [up_ne hp, up_ne hp, up_ne hp, up_ne hp]) v57
