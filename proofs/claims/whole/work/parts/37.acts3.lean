/-! more acts -/
/-- someone asked -/
def pN (N : Int → Int) (v k t : Int) : Int → Int := updr (updr (updr (updr N 1 (N 1 + 1)) (190 + 3 * N 1) v) (191 + 3 * N 1) k) (192 + 3 * N 1) t
theorem pN_e {N : Int → Int} {v k t j : Int} : pN N v k t j = if j = 192 + 3 * N 1 then t else if j = 191 + 3 * N 1 then k else if j = 190 + 3 * N 1 then v else if j = 1 then N 1 + 1 else N j := rfl
theorem pN_o {N : Int → Int} {v k t j : Int} (q : j ≠ 1) (q2 : j < 190 + 3 * N 1 ∨ 192 + 3 * N 1 < j) : pN N v k t j = N j := by rw [pN_e, if_neg (by omega), if_neg (by omega), if_neg (by omega), if_neg q]
theorem pN_1 {N : Int → Int} {v k t : Int} (n0 : 0 ≤ N 1) : pN N v k t 1 = N 1 + 1 := by rw [pN_e, if_neg (by omega), if_neg (by omega), if_neg (by omega), if_pos rfl]
theorem OK_asked {N : Int → Int} {v k t : Int} (O : OK N) (nn : N 1 < 20) (v0 : 0 ≤ v) (v1 : v < N 0) (k0 : 0 ≤ k) (k1 : k ≤ 3) (t0 : 1 ≤ t) (t1 : t ≤ 9) : OK (pN N v k t) := by
  obtain ⟨L, P, F, A, D⟩ := O
  have l0 := P.1
  have z1 := pN_1 (v := v) (k := k) (t := t) l0.1
  refine ⟨OL_g (pN_o (by omega) (by omega)) (fun j j0 j1 => pN_o (by omega) (by omega)) L, ⟨by rw [z1]; omega, fun w w0 w1 => ?_⟩, OF_g (pN_o (by omega) (by omega)) (fun j j0 j1 => pN_o (by omega) (by omega)) F, OA_g (by rw [z1]; omega) (by rw [pN_o (by omega) (by omega)]; omega) (pN_o (by omega) (by omega)) (fun j j0 j1 => pN_o (by omega) (by omega)) A, by rw [pN_o (by omega) (by omega)]; exact D⟩
  rw [z1] at w1
  rw [pN_o (j := 0) (by omega) (by omega)]
  rcases (show w = N 1 ∨ w < N 1 by omega) with q | q
  · rw [q, pN_e, if_neg (by omega), if_neg (by omega), if_pos rfl, pN_e, if_neg (by omega), if_pos rfl, pN_e, if_pos rfl]
    omega
  · rw [pN_o (by omega) (by omega), pN_o (by omega) (by omega), pN_o (by omega) (by omega)]; exact P.2 w w0 q
theorem UR_asked {N : Int → Int} {v k t : Int} (O : OK N) (nn : N 1 < 20) (v0 : 0 ≤ v) (v1 : v < N 0) (k0 : 0 ≤ k) (k1 : k ≤ 3) (t0 : 1 ≤ t) (t1 : t ≤ 9) : UR 2 0 0 (pN N v k t) N := by
  refine ⟨fun y => by omega, fun y => by omega, fun y => by omega, fun h s => ?_⟩
  have O' := OK_asked O nn v0 v1 k0 k1 t0 t1
  have l0 := O.2.1.1
  have z1 := pN_1 (N := N) (v := v) (k := k) (t := t) l0.1
  have u : ∀ p, p ≠ 7 → uh 2 0 0 h p = h p := fun p hp => up_ne hp
  refine ST_P O' s (fun p hp => u p (by omega)) (by rw [u 0 (by decide)]) (fun j q => (pN_o (by omega) (by omega)).symm) ⟨?_, fun w w0 w1 => ?_⟩
  · show am_up h 7 0 (h 7 0 - 1) 7 0 = N 1
    rw [up_same, if_pos rfl, s.2.1.1, z1]; omega
  · have := s.2.1.2 w w0 (by omega)
    rw [pN_o (by omega) (by omega), pN_o (by omega) (by omega), pN_o (by omega) (by omega)] at this
    rw [u 8 (by decide), u 9 (by decide), u 10 (by decide)]; exact this
theorem S_asked {h : am_H} {N : Int → Int} {n v k t : Int} {K W B : Int → Int} {P : Int → am_H → Prop} (O : OK N) (T : ST h N) (n0 : 0 ≤ n) (n6 : n ≤ 6) (C : CH h n K W B) (hf : am_ok (h 0 13 + 1)) (H1 : ¬ ((0 ≤ v ∧ v < N 0) ∧ (0 ≤ k ∧ k ≤ 3) ∧ 1 ≤ t ∧ t ≤ 9) → P (-100001) (am_up h 0 13 (h 0 13 + 1))) (H2 : ((0 ≤ v ∧ v < N 0) ∧ (0 ≤ k ∧ k ≤ 3) ∧ 1 ≤ t ∧ t ≤ 9) → N 1 = 20 → P (-100005) (am_up h 0 13 (h 0 13 + 1))) (H3 : ((0 ≤ v ∧ v < N 0) ∧ (0 ≤ k ∧ k ≤ 3) ∧ 1 ≤ t ∧ t ≤ 9) → N 1 < 20 → ∀ h1, AF h h1 → CH h1 (n1 n) (psh n K 2) (psh n W 0) (psh n B 0) → ST h1 (pN N v k t) → P (N 1) h1) : ∃ a_ h_, am_cd 3 157 [.inr (.inr 0), .inl v, .inl k, .inl t] h (some (.inl a_)) h_ ∧ P a_ h_ := by
  have l0 := O.2.1.1
  refine e_At_asked ?_
  rw [T.1.1, T.2.1.1]
  refine ⟨fun c => ⟨fun c2 => ⟨fun c3 => ⟨hf, H1 (by omega)⟩, fun c3 => ⟨fun c4 => ⟨fun c5 => am_liftv (Nat.le_of_ble_eq_true rfl) (S_note n0 n6 C (fun h1 f1 w1 => ?_)), fun c5 => ⟨hf, H2 (by omega) (by omega)⟩⟩, fun c4 => ⟨hf, H1 (by omega)⟩⟩⟩, fun c2 => ⟨hf, H1 (by omega)⟩⟩, fun c => ⟨hf, H1 (by omega)⟩⟩
  have T1 := ST_note f1 T
  rw [T1.2.1.1]
  refine ⟨⟨by omega, by omega⟩, H3 (by omega) c5 _ ⟨fun p p1 p2 => ?_, ?_⟩ (CH_of (fun p p1 p2 => ?_) w1) ?_⟩
  · rw [up_ne (by omega), up_ne (by omega), up_ne (by omega), up_ne (by omega)]; exact f1 p (by omega) (by omega) (by omega) (by omega)
  · rw [up_ne (by decide), up_ne (by decide), up_ne (by decide), up_ne (by decide), f1 0 (by decide) (by decide) (by decide) (by decide)]
  · rw [up_ne (by omega), up_ne (by omega), up_ne (by omega), up_ne (by omega)]
  · have z1 := pN_1 (N := N) (v := v) (k := k) (t := t) l0.1
    have l0' := O.1.1
    refine ST_P O T1 (fun p hp => by rw [up_ne (by omega), up_ne (by omega), up_ne (by omega), up_ne (by omega)]) (by rw [up_ne (by decide), up_ne (by decide), up_ne (by decide), up_ne (by decide)]) (fun j q => pN_o (by omega) (by omega)) ⟨?_, fun w w0 w1 => ?_⟩
    · rw [up_same, if_pos rfl, z1]
    · rw [z1] at w1
      rw [up_ne (show (8 : Nat) ≠ 7 by decide), up_ne (show (8 : Nat) ≠ 10 by decide), up_ne (show (8 : Nat) ≠ 9 by decide), up_same, up_ne (show (9 : Nat) ≠ 7 by decide), up_ne (show (9 : Nat) ≠ 10 by decide), up_same, up_ne (show (9 : Nat) ≠ 8 by decide), up_ne (show (10 : Nat) ≠ 7 by decide), up_same, up_ne (show (10 : Nat) ≠ 9 by decide), up_ne (show (10 : Nat) ≠ 8 by decide)]
      rcases (show w = N 1 ∨ w < N 1 by omega) with q | q
      · rw [if_pos q, if_pos q, if_pos q, q, pN_e, if_neg (by omega), if_neg (by omega), if_pos rfl, pN_e, if_neg (by omega), if_pos rfl, pN_e, if_pos rfl]
        exact ⟨rfl, rfl, rfl⟩
      · rw [if_neg (by omega), if_neg (by omega), if_neg (by omega), pN_o (by omega) (by omega), pN_o (by omega) (by omega), pN_o (by omega) (by omega)]; exact T1.2.1.2 w w0 q
theorem S_Masked {h : am_H} {N : Int → Int} {n v k t : Int} {S : Int → Int → Int} {P : Int → am_H → Prop} (O : OK N) (eN : h 57 = N) (n0 : 0 ≤ n) (n6 : n ≤ 6) (C : MH h n S) (hf : am_ok (h 56 3 + 1)) (H1 : ¬ ((0 ≤ v ∧ v < N 0) ∧ (0 ≤ k ∧ k ≤ 3) ∧ 1 ≤ t ∧ t ≤ 9) → P (-100001) (am_up h 56 3 (h 56 3 + 1))) (H2 : ((0 ≤ v ∧ v < N 0) ∧ (0 ≤ k ∧ k ≤ 3) ∧ 1 ≤ t ∧ t ≤ 9) → N 1 = 20 → P (-100005) (am_up h 56 3 (h 56 3 + 1))) (H3 : ((0 ≤ v ∧ v < N 0) ∧ (0 ≤ k ∧ k ≤ 3) ∧ 1 ≤ t ∧ t ≤ 9) → N 1 < 20 → ∀ h1, MAF h h1 → MH h1 (n1 n) (psh n S N) → h1 57 = pN N v k t → P (N 1) h1) : ∃ a_ h_, am_cd 3 163 [.inr (.inr 56), .inl v, .inl k, .inl t] h (some (.inl a_)) h_ ∧ P a_ h_ := by
  have l0 := O.2.1.1
  have l1 := O.1.1
  refine e_Mo_asked ?_
  rw [eN]
  refine ⟨by omega, fun c => ⟨fun c2 => ⟨fun c3 => ⟨fun c5 => am_liftv (Nat.le_of_ble_eq_true rfl) (S_Mkeep n0 n6 C (fun h1 f1 g1 c1 => ?_)), fun c5 => ⟨hf, H2 (by omega) c5⟩⟩, fun c3 => ⟨hf, H1 (by omega)⟩⟩, fun c2 => ⟨hf, H1 (by omega)⟩⟩, fun c => ⟨hf, H1 (by omega)⟩⟩
  have e57 : h1 57 = N := (f1 57 (by decide) (by decide)).trans eN
  rw [eN] at c1
  rw [e57]
  refine ⟨⟨by omega, by omega, by omega, by omega, by omega, by omega, by omega, by omega⟩, H3 (by omega) (by omega) _ ⟨fun p p1 p2 p3 => by rw [up_ne p2, up_ne p2, up_ne p2, up_ne p2]; exact f1 p p1 p3, fun j j2 => by rw [up_ne (by decide), up_ne (by decide), up_ne (by decide), up_ne (by decide)]; exact g1 j j2⟩ (MH_of (by rw [up_ne (by decide), up_ne (by decide), up_ne (by decide), up_ne (by decide)]) (by rw [up_ne (by decide), up_ne (by decide), up_ne (by decide), up_ne (by decide)]) c1) ?_⟩
  rw [up_f, up_f, up_f, up_f, e57]; rfl
/-- an answer -/
def aN (N : Int → Int) (w t f : Int) : Int → Int := updr (updr (updr (updr (updr (updr N 3 (N 3 + 1)) (520 + 5 * N 3) w) (521 + 5 * N 3) t) (522 + 5 * N 3) f) (523 + 5 * N 3) (N 4)) (524 + 5 * N 3) (-1)
theorem aN_e {N : Int → Int} {w t f j : Int} : aN N w t f j = if j = 524 + 5 * N 3 then -1 else if j = 523 + 5 * N 3 then N 4 else if j = 522 + 5 * N 3 then f else if j = 521 + 5 * N 3 then t else if j = 520 + 5 * N 3 then w else if j = 3 then N 3 + 1 else N j := rfl
theorem aN_o {N : Int → Int} {w t f j : Int} (q : j ≠ 3) (q2 : j < 520 + 5 * N 3 ∨ 524 + 5 * N 3 < j) : aN N w t f j = N j := by rw [aN_e, if_neg (by omega), if_neg (by omega), if_neg (by omega), if_neg (by omega), if_neg (by omega), if_neg q]
theorem aN_3 {N : Int → Int} {w t f : Int} (n0 : 0 ≤ N 3) : aN N w t f 3 = N 3 + 1 := by rw [aN_e, if_neg (by omega), if_neg (by omega), if_neg (by omega), if_neg (by omega), if_neg (by omega), if_pos rfl]
theorem aN_n {N : Int → Int} {w t f : Int} : aN N w t f (520 + 5 * N 3) = w ∧ aN N w t f (521 + 5 * N 3) = t ∧ aN N w t f (522 + 5 * N 3) = f ∧ aN N w t f (523 + 5 * N 3) = N 4 ∧ aN N w t f (524 + 5 * N 3) = -1 := by
  refine ⟨?_, ?_, ?_, ?_, ?_⟩
  · rw [aN_e, if_neg (by omega), if_neg (by omega), if_neg (by omega), if_neg (by omega), if_pos rfl]
  · rw [aN_e, if_neg (by omega), if_neg (by omega), if_neg (by omega), if_pos rfl]
  · rw [aN_e, if_neg (by omega), if_neg (by omega), if_pos rfl]
  · rw [aN_e, if_neg (by omega), if_pos rfl]
  · rw [aN_e, if_pos rfl]
theorem OK_answer {N : Int → Int} {w t f : Int} (O : OK N) (nn : N 3 < 60) (w0 : 0 ≤ w) (w1 : w < N 1) (t0 : 0 ≤ t) (t1 : t < 6) (f0 : 0 ≤ f) (f1 : f < N 2) : OK (aN N w t f) := by
  obtain ⟨L, P, F, A, D⟩ := O
  have l0 := A.1
  have z3 := aN_3 (w := w) (t := t) (f := f) l0.1
  refine ⟨OL_g (aN_o (by omega) (by omega)) (fun j j0 j1 => aN_o (by omega) (by omega)) L, OP_g (by rw [aN_o (by omega) (by omega)]; omega) (aN_o (by omega) (by omega)) (fun j j0 j1 => aN_o (by omega) (by omega)) P, OF_g (aN_o (by omega) (by omega)) (fun j j0 j1 => aN_o (by omega) (by omega)) F, ⟨by rw [z3]; omega, fun a a0 a1 => ?_⟩, by rw [aN_o (by omega) (by omega)]; exact D⟩
  rw [z3] at a1
  rw [aN_o (j := 1) (by omega) (by omega), aN_o (j := 2) (by omega) (by omega)]
  rcases (show a = N 3 ∨ a < N 3 by omega) with q | q
  · obtain ⟨y0, y1, y2, y3, y4⟩ := aN_n (N := N) (w := w) (t := t) (f := f)
    rw [q, y0, y1, y2, y3, y4]; omega
  · rw [aN_o (by omega) (by omega), aN_o (by omega) (by omega), aN_o (by omega) (by omega), aN_o (by omega) (by omega), aN_o (by omega) (by omega)]; exact A.2 a a0 q
theorem UR_answer {N : Int → Int} {w t f : Int} (O : OK N) (nn : N 3 < 60) (w0 : 0 ≤ w) (w1 : w < N 1) (t0 : 0 ≤ t) (t1 : t < 6) (f0 : 0 ≤ f) (f1 : f < N 2) : UR 4 0 0 (aN N w t f) N := by
  refine ⟨fun y => by omega, fun y => by omega, fun y => by omega, fun h s => ?_⟩
  have O' := OK_answer O nn w0 w1 t0 t1 f0 f1
  have l0 := O.2.2.2.1.1
  have z3 := aN_3 (N := N) (w := w) (t := t) (f := f) l0.1
  have u : ∀ p, p ≠ 17 → uh 4 0 0 h p = h p := fun p hp => up_ne hp
  refine ST_A O' s (fun p p1 p2 => u p (by omega)) (by rw [u 0 (by decide)]) (fun j q q2 => (aN_o (by omega) (by omega)).symm) ⟨?_, fun a a0 a1 => ?_⟩
  · show am_up h 17 1 (h 17 1 - 1) 17 1 = N 3
    rw [up_same, if_pos rfl, s.2.2.2.1.1, z3]; omega
  · have := s.2.2.2.1.2 a a0 (by omega)
    rw [aN_o (by omega) (by omega), aN_o (by omega) (by omega), aN_o (by omega) (by omega), aN_o (by omega) (by omega), aN_o (by omega) (by omega)] at this
    rw [u 18 (by decide), u 19 (by decide), u 20 (by decide), u 21 (by decide), u 22 (by decide)]; exact this
theorem S_answer {h : am_H} {N : Int → Int} {n w t f : Int} {K W B : Int → Int} {P : Int → am_H → Prop} (O : OK N) (T : ST h N) (n0 : 0 ≤ n) (n6 : n ≤ 6) (C : CH h n K W B) (hf : am_ok (h 0 13 + 1)) (H1 : ¬ ((0 ≤ w ∧ w < N 1) ∧ (0 ≤ t ∧ t < 6) ∧ 0 ≤ f ∧ f < N 2) → P (-100001) (am_up h 0 13 (h 0 13 + 1))) (H2 : ((0 ≤ w ∧ w < N 1) ∧ (0 ≤ t ∧ t < 6) ∧ 0 ≤ f ∧ f < N 2) → N 3 = 60 → P (-100005) (am_up h 0 13 (h 0 13 + 1))) (H3 : ((0 ≤ w ∧ w < N 1) ∧ (0 ≤ t ∧ t < 6) ∧ 0 ≤ f ∧ f < N 2) → N 3 < 60 → ∀ h1, AF h h1 → CH h1 (n1 n) (psh n K 4) (psh n W 0) (psh n B 0) → ST h1 (aN N w t f) → P (N 3) h1) : ∃ a_ h_, am_cd 3 158 [.inr (.inr 0), .inl w, .inl t, .inl f] h (some (.inl a_)) h_ ∧ P a_ h_ := by
  have l0 := O.2.2.2.1.1
  refine e_At_answer ?_
  rw [T.2.1.1, T.2.2.1.1, T.2.2.2.1.1]
  refine ⟨fun c => ⟨fun c2 => ⟨fun c3 => ⟨fun c5 => am_liftv (Nat.le_of_ble_eq_true rfl) (S_note n0 n6 C (fun h1 f1 w1 => ?_)), fun c5 => ⟨hf, H2 (by omega) (by omega)⟩⟩, fun c3 => ⟨hf, H1 (by omega)⟩⟩, fun c2 => ⟨hf, H1 (by omega)⟩⟩, fun c => ⟨hf, H1 (by omega)⟩⟩
  have T1 := ST_note f1 T
  rw [T1.2.2.2.1.1, T1.2.2.2.2.2]
  have g : ∀ p, p < 17 ∨ 22 < p → am_up (am_up (am_up (am_up (am_up (am_up h1 18 (N 3) w) 19 (N 3) t) 20 (N 3) f) 21 (N 3) (N 4)) 22 (N 3) (-1)) 17 1 (N 3 + 1) p = h1 p := fun p hp => by rw [up_ne (by omega), up_ne (by omega), up_ne (by omega), up_ne (by omega), up_ne (by omega), up_ne (by omega)]
  refine ⟨⟨by omega, by omega⟩, H3 (by omega) c5 _ ⟨fun p p1 p2 => ?_, ?_⟩ (CH_of (fun p p1 p2 => g p (by omega)) w1) ?_⟩
  · rw [g p (by omega)]; exact f1 p (by omega) (by omega) (by omega) (by omega)
  · rw [g 0 (by decide), f1 0 (by decide) (by decide) (by decide) (by decide)]
  · have z3 := aN_3 (N := N) (w := w) (t := t) (f := f) l0.1
    refine ST_A O T1 (fun p p1 p2 => g p (by omega)) (by rw [g 0 (by decide)]) (fun j q q2 => aN_o (by omega) (by omega)) ⟨?_, fun a a0 a1 => ?_⟩
    · rw [up_same, if_pos rfl, z3]
    · rw [z3] at a1
      have e18 : am_up (am_up (am_up (am_up (am_up (am_up h1 18 (N 3) w) 19 (N 3) t) 20 (N 3) f) 21 (N 3) (N 4)) 22 (N 3) (-1)) 17 1 (N 3 + 1) 18 a = if a = N 3 then w else h1 18 a := by rw [up_ne (by decide), up_ne (by decide), up_ne (by decide), up_ne (by decide), up_ne (by decide), up_same]
      have e19 : am_up (am_up (am_up (am_up (am_up (am_up h1 18 (N 3) w) 19 (N 3) t) 20 (N 3) f) 21 (N 3) (N 4)) 22 (N 3) (-1)) 17 1 (N 3 + 1) 19 a = if a = N 3 then t else h1 19 a := by rw [up_ne (by decide), up_ne (by decide), up_ne (by decide), up_ne (by decide), up_same, up_ne (by decide)]
      have e20 : am_up (am_up (am_up (am_up (am_up (am_up h1 18 (N 3) w) 19 (N 3) t) 20 (N 3) f) 21 (N 3) (N 4)) 22 (N 3) (-1)) 17 1 (N 3 + 1) 20 a = if a = N 3 then f else h1 20 a := by rw [up_ne (by decide), up_ne (by decide), up_ne (by decide), up_same, up_ne (by decide), up_ne (by decide)]
      have e21 : am_up (am_up (am_up (am_up (am_up (am_up h1 18 (N 3) w) 19 (N 3) t) 20 (N 3) f) 21 (N 3) (N 4)) 22 (N 3) (-1)) 17 1 (N 3 + 1) 21 a = if a = N 3 then N 4 else h1 21 a := by rw [up_ne (by decide), up_ne (by decide), up_same, up_ne (by decide), up_ne (by decide), up_ne (by decide)]
      have e22 : am_up (am_up (am_up (am_up (am_up (am_up h1 18 (N 3) w) 19 (N 3) t) 20 (N 3) f) 21 (N 3) (N 4)) 22 (N 3) (-1)) 17 1 (N 3 + 1) 22 a = if a = N 3 then -1 else h1 22 a := by rw [up_ne (by decide), up_same, up_ne (by decide), up_ne (by decide), up_ne (by decide), up_ne (by decide)]
      rw [e18, e19, e20, e21, e22]
      rcases (show a = N 3 ∨ a < N 3 by omega) with q | q
      · obtain ⟨y0, y1, y2, y3, y4⟩ := aN_n (N := N) (w := w) (t := t) (f := f)
        rw [if_pos q, if_pos q, if_pos q, if_pos q, if_pos q, q, y0, y1, y2, y3, y4]
        exact ⟨rfl, rfl, rfl, rfl, rfl⟩
      · have qn : ¬ a = N 3 := by omega
        rw [if_neg qn, if_neg qn, if_neg qn, if_neg qn, if_neg qn, aN_o (by omega) (by omega), aN_o (by omega) (by omega), aN_o (by omega) (by omega), aN_o (by omega) (by omega), aN_o (by omega) (by omega)]; exact T1.2.2.2.1.2 a a0 q
theorem S_Manswer {h : am_H} {N : Int → Int} {n w t f : Int} {S : Int → Int → Int} {P : Int → am_H → Prop} (O : OK N) (eN : h 57 = N) (n0 : 0 ≤ n) (n6 : n ≤ 6) (C : MH h n S) (hf : am_ok (h 56 3 + 1)) (H1 : ¬ ((0 ≤ w ∧ w < N 1) ∧ (0 ≤ t ∧ t < 6) ∧ 0 ≤ f ∧ f < N 2) → P (-100001) (am_up h 56 3 (h 56 3 + 1))) (H2 : ((0 ≤ w ∧ w < N 1) ∧ (0 ≤ t ∧ t < 6) ∧ 0 ≤ f ∧ f < N 2) → N 3 = 60 → P (-100005) (am_up h 56 3 (h 56 3 + 1))) (H3 : ((0 ≤ w ∧ w < N 1) ∧ (0 ≤ t ∧ t < 6) ∧ 0 ≤ f ∧ f < N 2) → N 3 < 60 → ∀ h1, MAF h h1 → MH h1 (n1 n) (psh n S N) → h1 57 = aN N w t f → P (N 3) h1) : ∃ a_ h_, am_cd 3 166 [.inr (.inr 56), .inl w, .inl t, .inl f] h (some (.inl a_)) h_ ∧ P a_ h_ := by
  have l0 := O.2.2.2.1.1
  have l1 := O.2.1.1
  have l2 := O.2.2.1.1
  refine e_Mo_answer ?_
  rw [eN]
  refine ⟨by omega, fun c => ⟨fun c2 => ⟨by omega, fun c3 => ⟨fun c5 => am_liftv (Nat.le_of_ble_eq_true rfl) (S_Mkeep n0 n6 C (fun h1 f1 g1 c1 => ?_)), fun c5 => ⟨hf, H2 (by omega) c5⟩⟩, fun c3 => ⟨hf, H1 (by omega)⟩⟩, fun c2 => ⟨hf, H1 (by omega)⟩⟩, fun c => ⟨hf, H1 (by omega)⟩⟩
  have e57 : h1 57 = N := (f1 57 (by decide) (by decide)).trans eN
  rw [eN] at c1
  rw [e57, if_neg (by omega), if_neg (by omega), if_neg (by omega)]
  have g : ∀ p, p ≠ 57 → am_up (am_up (am_up (am_up (am_up (am_up h1 57 3 (N 3 + 1)) 57 (520 + 5 * N 3) w) 57 (521 + 5 * N 3) t) 57 (522 + 5 * N 3) f) 57 (523 + 5 * N 3) (N 4)) 57 (524 + 5 * N 3) (-1) p = h1 p := fun p hp => by rw [up_ne hp, up_ne hp, up_ne hp, up_ne hp, up_ne hp, up_ne hp]
  refine ⟨⟨by omega, by omega, by omega, by omega, by omega, by omega, by omega, by omega, by omega, by omega, by omega, by omega⟩, H3 (by omega) (by omega) _ ⟨fun p p1 p2 p3 => by rw [g p p2]; exact f1 p p1 p3, fun j j2 => by rw [g 56 (by decide)]; exact g1 j j2⟩ (MH_of (g 56 (by decide)) (g 58 (by decide)) c1) ?_⟩
  rw [up_f, up_f, up_f, up_f, up_f, up_f, e57]; rfl
/-- an answer taken back -/
def tN (N : Int → Int) (a : Int) : Int → Int := updr N (524 + 5 * a) (N 4)
theorem tN_e {N : Int → Int} {a j : Int} : tN N a j = if j = 524 + 5 * a then N 4 else N j := rfl
theorem tN_o {N : Int → Int} {a j : Int} (q : j ≠ 524 + 5 * a) : tN N a j = N j := by rw [tN_e, if_neg q]
theorem OK_take {N : Int → Int} {a : Int} (O : OK N) (a0 : 0 ≤ a) (a1 : a < N 3) : OK (tN N a) := by
  obtain ⟨L, P, F, A, D⟩ := O
  refine ⟨OL_g (tN_o (by omega)) (fun j j0 j1 => tN_o (by omega)) L, OP_g (by rw [tN_o (by omega)]; omega) (tN_o (by omega)) (fun j j0 j1 => tN_o (by omega)) P, OF_g (tN_o (by omega)) (fun j j0 j1 => tN_o (by omega)) F, ⟨by rw [tN_o (by omega)]; exact A.1, fun b b0 b1 => ?_⟩, by rw [tN_o (by omega)]; exact D⟩
  rw [tN_o (j := 3) (by omega)] at b1
  have k := A.2 b b0 b1
  rw [tN_o (j := 1) (by omega), tN_o (j := 2) (by omega), tN_o (by omega), tN_o (by omega), tN_o (by omega), tN_o (by omega)]
  refine ⟨k.1, k.2.1, k.2.2.1, k.2.2.2.1, ?_⟩
  rw [tN_e]
  by_cases q : 524 + 5 * b = 524 + 5 * a
  · rw [if_pos q]; omega
  · rw [if_neg q]; exact k.2.2.2.2
theorem AR_take {h : am_H} {N M : Int → Int} {a x : Int} (A : AR h N) (e : ∀ j, j ≠ 524 + 5 * a → M j = N j) (a0 : 0 ≤ a) (ex : M (524 + 5 * a) = x) : AR (am_up h 22 a x) M := by
  refine ⟨by rw [up_ne (by decide), e 3 (by omega)]; exact A.1, fun b b0 b1 => ?_⟩
  rw [e 3 (by omega)] at b1
  have k := A.2 b b0 b1
  rw [up_ne (show (18 : Nat) ≠ 22 by decide), up_ne (show (19 : Nat) ≠ 22 by decide), up_ne (show (20 : Nat) ≠ 22 by decide), up_ne (show (21 : Nat) ≠ 22 by decide), up_same, e _ (by omega), e _ (by omega), e _ (by omega), e _ (by omega)]
  refine ⟨k.1, k.2.1, k.2.2.1, k.2.2.2.1, ?_⟩
  by_cases q : b = a
  · rw [if_pos q, q, ex]
  · rw [if_neg q, e _ (by omega)]; exact k.2.2.2.2
theorem UR_take {N : Int → Int} {a : Int} (O : OK N) (a0 : 0 ≤ a) (a1 : a < N 3) (z : N (524 + 5 * a) = -1) : UR 5 a 0 (tN N a) N := by
  have l0 := O.2.2.2.1.1
  refine ⟨fun y => by omega, fun y => by omega, fun _ => by omega, fun h s => ?_⟩
  have u : uh 5 a 0 h = am_up h 22 a (-1) := by unfold uh; rw [if_neg (by decide), if_neg (by decide), if_neg (by decide), if_neg (by decide), if_neg (by decide), if_pos rfl]
  rw [u]
  exact ST_A (OK_take O a0 a1) s (fun p p1 p2 => up_ne (by omega)) (by rw [up_ne (by decide)]) (fun j q q2 => (tN_o (by omega)).symm) (AR_take s.2.2.2.1 (fun j q => (tN_o q).symm) a0 z)
theorem S_take {h : am_H} {N : Int → Int} {n a : Int} {K W B : Int → Int} {P : Int → am_H → Prop} (O : OK N) (T : ST h N) (n0 : 0 ≤ n) (n6 : n ≤ 6) (C : CH h n K W B) (hf : am_ok (h 0 13 + 1)) (H1 : ¬ (0 ≤ a ∧ a < N 3) → P (-100001) (am_up h 0 13 (h 0 13 + 1))) (H2 : (0 ≤ a ∧ a < N 3) → N (524 + 5 * a) ≠ -1 → P (-100007) (am_up h 0 13 (h 0 13 + 1))) (H3 : (0 ≤ a ∧ a < N 3) → N (524 + 5 * a) = -1 → ∀ h1, AF h h1 → CH h1 (n1 n) (psh n K 5) (psh n W a) (psh n B 0) → ST h1 (tN N a) → P 1 h1) : ∃ a_ h_, am_cd 3 159 [.inr (.inr 0), .inl a] h (some (.inl a_)) h_ ∧ P a_ h_ := by
  have l0 := O.2.2.2.1.1
  refine e_At_take ?_
  rw [T.2.2.2.1.1]
  refine ⟨fun c => ⟨by omega, ?_⟩, fun c => ⟨hf, H1 c⟩⟩
  rw [(T.2.2.2.1.2 a c.1 c.2).2.2.2.2]
  refine ⟨fun c2 => ⟨hf, H2 c c2⟩, fun c2 => am_liftv (Nat.le_of_ble_eq_true rfl) (S_note n0 n6 C (fun h1 f1 w1 => ?_))⟩
  have T1 := ST_note f1 T
  rw [T1.2.2.2.2.2]
  refine H3 c c2 _ ⟨fun p p1 p2 => ?_, ?_⟩ (CH_of (fun p p1 p2 => up_ne (by omega)) w1) (ST_A O T1 (fun p p1 p2 => up_ne (by omega)) (by rw [up_ne (by decide)]) (fun j q q2 => tN_o (by omega)) (AR_take T1.2.2.2.1 (fun j q => tN_o q) c.1 (by rw [tN_e, if_pos rfl])))
  · rw [up_ne (by omega)]; exact f1 p (by omega) (by omega) (by omega) (by omega)
  · rw [up_ne (by decide), f1 0 (by decide) (by decide) (by decide) (by decide)]
theorem S_Mtake {h : am_H} {N : Int → Int} {n a : Int} {S : Int → Int → Int} {P : Int → am_H → Prop} (O : OK N) (eN : h 57 = N) (n0 : 0 ≤ n) (n6 : n ≤ 6) (C : MH h n S) (hf : am_ok (h 56 3 + 1)) (H1 : ¬ (0 ≤ a ∧ a < N 3) → P (-100001) (am_up h 56 3 (h 56 3 + 1))) (H2 : (0 ≤ a ∧ a < N 3) → N (524 + 5 * a) ≠ -1 → P (-100007) (am_up h 56 3 (h 56 3 + 1))) (H3 : (0 ≤ a ∧ a < N 3) → N (524 + 5 * a) = -1 → ∀ h1, MAF h h1 → MH h1 (n1 n) (psh n S N) → h1 57 = tN N a → P 1 h1) : ∃ a_ h_, am_cd 2 125 [.inr (.inr 56), .inl a] h (some (.inl a_)) h_ ∧ P a_ h_ := by
  have l0 := O.2.2.2.1.1
  refine e_Mo_take ?_
  rw [eN]
  refine ⟨by omega, fun c => ⟨⟨by omega, by omega, by omega, by omega⟩, ?_⟩, fun c => ⟨hf, H1 (by omega)⟩⟩
  have k := (O.2.2.2.1.2 a c.1 (by omega)).2.2.2.2
  refine ⟨fun c2 => am_liftv (Nat.le_of_ble_eq_true rfl) (S_Mkeep n0 n6 C (fun h1 f1 g1 c1 => ?_)), fun c2 => ⟨hf, H2 (by omega) (by omega)⟩⟩
  have e57 : h1 57 = N := (f1 57 (by decide) (by decide)).trans eN
  rw [eN] at c1
  rw [e57]
  refine H3 (by omega) (by omega) _ ⟨fun p p1 p2 p3 => by rw [up_ne p2]; exact f1 p p1 p3, fun j j2 => by rw [up_ne (by decide)]; exact g1 j j2⟩ (MH_of (up_ne (by decide)) (up_ne (by decide)) c1) ?_
  rw [up_f, e57]; rfl
