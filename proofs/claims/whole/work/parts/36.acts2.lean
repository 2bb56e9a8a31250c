/-! more acts -/
theorem ST_L {h h1 : am_H} {N M : Int → Int} (O : OK N) (T : ST h N) (u : ∀ p, 5 < p → p ≤ 22 → h1 p = h p) (u0 : h1 0 12 = h 0 12) (e : ∀ k, (0 < k ∧ k < 10) ∨ 190 ≤ k → M k = N k) (L : LR h1 M) : ST h1 M := by
  obtain ⟨oL, oP, oF, oA, _⟩ := O
  obtain ⟨_, P, F, A, X, d⟩ := T
  refine ⟨L, PR_of (u _ (by decide) (by decide)) (u _ (by decide) (by decide)) (u _ (by decide) (by decide)) (u _ (by decide) (by decide)) (PR_g (e 1 (by omega)) oP.1.2 (fun k k0 k1 => e k (by omega)) P), FR_of (by rw [u 11 (by decide) (by decide)]) (u _ (by decide) (by decide)) (u _ (by decide) (by decide)) (FR_g (e 2 (by omega)) oF (fun k k0 k1 => e k (by omega)) F), AR_of (by rw [u 17 (by decide) (by decide)]) (u _ (by decide) (by decide)) (u _ (by decide) (by decide)) (u _ (by decide) (by decide)) (u _ (by decide) (by decide)) (u _ (by decide) (by decide)) (AR_g (e 3 (by omega)) oA.1.2 (fun k k0 k1 => e k (by omega)) A), MR_of (u _ (by decide) (by decide)) (MR_g (e 2 (by omega)) oF (fun k k0 k1 => e k (by omega)) X), ?_⟩
  rw [u0, e 4 (by omega)]; exact d
theorem ST_P {h h1 : am_H} {N M : Int → Int} (O : OK N) (T : ST h N) (u : ∀ p, (0 < p ∧ p < 7) ∨ (10 < p ∧ p ≤ 22) → h1 p = h p) (u0 : h1 0 12 = h 0 12) (e : ∀ k, (k < 190 ∧ k ≠ 1) ∨ 250 ≤ k → M k = N k) (P : PR h1 M) : ST h1 M := by
  obtain ⟨oL, oP, oF, oA, _⟩ := O
  obtain ⟨L, _, F, A, X, d⟩ := T
  refine ⟨LR_of (u _ (by decide)) (u _ (by decide)) (u _ (by decide)) (u _ (by decide)) (u _ (by decide)) (LR_g (e 0 (by omega)) oL.1.2 (fun k k0 k1 => e k (by omega)) L), P, FR_of (by rw [u 11 (by decide)]) (u _ (by decide)) (u _ (by decide)) (FR_g (e 2 (by omega)) oF (fun k k0 k1 => e k (by omega)) F), AR_of (by rw [u 17 (by decide)]) (u _ (by decide)) (u _ (by decide)) (u _ (by decide)) (u _ (by decide)) (u _ (by decide)) (AR_g (e 3 (by omega)) oA.1.2 (fun k k0 k1 => e k (by omega)) A), MR_of (u _ (by decide)) (MR_g (e 2 (by omega)) oF (fun k k0 k1 => e k (by omega)) X), ?_⟩
  rw [u0, e 4 (by omega)]; exact d
theorem ST_A {h h1 : am_H} {N M : Int → Int} (O : OK N) (T : ST h N) (u : ∀ p, 0 < p → p ≤ 16 → h1 p = h p) (u0 : h1 0 12 = h 0 12) (e : ∀ k, k < 520 → k ≠ 3 → M k = N k) (A : AR h1 M) : ST h1 M := by
  obtain ⟨oL, oP, oF, oA, _⟩ := O
  obtain ⟨L, P, F, _, X, d⟩ := T
  refine ⟨LR_of (u _ (by decide) (by decide)) (u _ (by decide) (by decide)) (u _ (by decide) (by decide)) (u _ (by decide) (by decide)) (u _ (by decide) (by decide)) (LR_g (e 0 (by omega) (by omega)) oL.1.2 (fun k k0 k1 => e k (by omega) (by omega)) L), PR_of (u _ (by decide) (by decide)) (u _ (by decide) (by decide)) (u _ (by decide) (by decide)) (u _ (by decide) (by decide)) (PR_g (e 1 (by omega) (by omega)) oP.1.2 (fun k k0 k1 => e k (by omega) (by omega)) P), FR_of (by rw [u 11 (by decide) (by decide)]) (u _ (by decide) (by decide)) (u _ (by decide) (by decide)) (FR_g (e 2 (by omega) (by omega)) oF (fun k k0 k1 => e k (by omega) (by omega)) F), A, MR_of (u _ (by decide) (by decide)) (MR_g (e 2 (by omega) (by omega)) oF (fun k k0 k1 => e k (by omega) (by omega)) X), ?_⟩
  rw [u0, e 4 (by omega) (by omega)]; exact d
/-- a road -/
def rN (N : Int → Int) (a b l : Int) : Int → Int := updr (updr N (46 + 12 * a + b) l) (46 + 12 * b + a) l
theorem rN_e {N : Int → Int} {a b l k : Int} : rN N a b l k = if k = 46 + 12 * b + a then l else if k = 46 + 12 * a + b then l else N k := rfl
theorem rN_o {N : Int → Int} {a b l k : Int} (a0 : 0 ≤ a) (a1 : a < 12) (b0 : 0 ≤ b) (b1 : b < 12) (q : k < 46 ∨ 190 ≤ k) : rN N a b l k = N k := by rw [rN_e, if_neg (by omega), if_neg (by omega)]
theorem OK_road {N : Int → Int} {a b l : Int} (O : OK N) (a0 : 0 ≤ a) (a1 : a < N 0) (b0 : 0 ≤ b) (b1 : b < N 0) (ab : a ≠ b) (l0 : 0 ≤ l) (l1 : l ≤ 99) : OK (rN N a b l) := by
  obtain ⟨L, P, F, A, D⟩ := O
  have z := L.1
  have o : ∀ k, (k < 46 ∨ 190 ≤ k) → rN N a b l k = N k := fun k q => rN_o a0 (by omega) b0 (by omega) q
  refine ⟨⟨by rw [o 0 (by omega)]; exact z, fun v v0 v1 => ?_, fun u v u0 u1 v0 v1 => ?_⟩, OP_g (by rw [o 0 (by omega)]; omega) (o 1 (by omega)) (fun k k0 k1 => o k (by omega)) P, OF_g (o 2 (by omega)) (fun k k0 k1 => o k (by omega)) F, OA_g (by rw [o 1 (by omega)]; omega) (by rw [o 2 (by omega)]; omega) (o 3 (by omega)) (fun k k0 k1 => o k (by omega)) A, by rw [o 4 (by omega)]; exact D⟩
  · rw [o 0 (by omega)] at v1
    rw [o _ (by omega), o _ (by omega), o _ (by omega)]; exact L.2.1 v v0 v1
  · rw [o 0 (by omega)]
    have k := L.2.2 u v u0 u1 v0 v1
    by_cases q : (u = a ∧ v = b) ∨ (u = b ∧ v = a)
    · have e1 : rN N a b l (46 + 12 * u + v) = l := by
        rw [rN_e]
        rcases q with ⟨q1, q2⟩ | ⟨q1, q2⟩
        · rw [if_neg (by omega), if_pos (by omega)]
        · rw [if_pos (by omega)]
      have e2 : rN N a b l (46 + 12 * v + u) = l := by
        rw [rN_e]
        rcases q with ⟨q1, q2⟩ | ⟨q1, q2⟩
        · rw [if_pos (by omega)]
        · rw [if_neg (by omega), if_pos (by omega)]
      rw [e1, e2]
      exact ⟨⟨l0, l1⟩, rfl, fun _ => by omega⟩
    · rw [rN_e, if_neg (by omega), if_neg (by omega), rN_e, if_neg (by omega), if_neg (by omega)]; exact k
theorem LR_road {h : am_H} {N M : Int → Int} {a b l : Int} (O : OL N) (L : LR h N) (a0 : 0 ≤ a) (a1 : a < 12) (b0 : 0 ≤ b) (b1 : b < 12) (e : ∀ k, k < 46 → M k = N k) (e2 : ∀ u v, 0 ≤ u → u < 12 → 0 ≤ v → v < 12 → M (46 + 12 * u + v) = if (u = a ∧ v = b) ∨ (u = b ∧ v = a) then l else N (46 + 12 * u + v)) : LR (am_up (am_up h 5 (12 * a + b) l) 5 (12 * b + a) l) M := by
  have z := O.1
  refine ⟨?_, fun v v0 v1 => ?_, fun u v u0 u1 v0 v1 => ?_⟩
  · rw [up_ne (by decide), up_ne (by decide), e 0 (by omega)]; exact L.1
  · rw [e 0 (by omega)] at v1
    rw [up_ne (by decide), up_ne (by decide), up_ne (show (3 : Nat) ≠ 5 by decide), up_ne (show (3 : Nat) ≠ 5 by decide), up_ne (show (4 : Nat) ≠ 5 by decide), up_ne (show (4 : Nat) ≠ 5 by decide), e _ (by omega), e _ (by omega), e _ (by omega)]; exact L.2.1 v v0 v1
  · rw [up_same, up_same, e2 u v u0 u1 v0 v1]
    by_cases q : u = b ∧ v = a
    · rw [if_pos (by omega), if_pos (.inr q)]
    · rw [if_neg (by omega)]
      by_cases q2 : u = a ∧ v = b
      · rw [if_pos (by omega), if_pos (.inl q2)]
      · rw [if_neg (by omega), if_neg (fun y => y.elim q2 q)]; exact L.2.2 u v u0 u1 v0 v1
theorem rN_uv {N : Int → Int} {a b l : Int} (a0 : 0 ≤ a) (a1 : a < 12) (b0 : 0 ≤ b) (b1 : b < 12) : ∀ u v, 0 ≤ u → u < 12 → 0 ≤ v → v < 12 → rN N a b l (46 + 12 * u + v) = if (u = a ∧ v = b) ∨ (u = b ∧ v = a) then l else N (46 + 12 * u + v) := by
  intro u v u0 u1 v0 v1
  rw [rN_e]
  by_cases q : u = b ∧ v = a
  · rw [if_pos (by omega), if_pos (.inr q)]
  · rw [if_neg (by omega)]
    by_cases q2 : u = a ∧ v = b
    · rw [if_pos (by omega), if_pos (.inl q2)]
    · rw [if_neg (by omega), if_neg (fun y => y.elim q2 q)]
theorem UR_road {N : Int → Int} {a b l : Int} (O : OK N) (a0 : 0 ≤ a) (a1 : a < N 0) (b0 : 0 ≤ b) (b1 : b < N 0) (ab : a ≠ b) (l0 : 0 ≤ l) (l1 : l ≤ 99) : UR 1 (a * 12 + b) (N (46 + 12 * a + b)) (rN N a b l) N := by
  have z := O.1.1
  refine ⟨fun _ => by omega, fun y => by omega, fun y => by omega, fun h s => ?_⟩
  have O' := OK_road O a0 a1 b0 b1 ab l0 l1
  have w1 : (a * 12 + b) / 12 = a := by omega
  have w2 : (a * 12 + b) % 12 = b := by omega
  have ue : uh 1 (a * 12 + b) (N (46 + 12 * a + b)) h = am_up (am_up h 5 (12 * a + b) (N (46 + 12 * a + b))) 5 (12 * b + a) (N (46 + 12 * a + b)) := by
    unfold uh
    rw [if_neg (by decide), if_pos rfl, w1, w2]
  rw [ue]
  refine ST_L O' s (fun p p1 p2 => by rw [up_ne (by omega), up_ne (by omega)]) (by rw [up_ne (by decide), up_ne (by decide)]) (fun k q => (rN_o a0 (by omega) b0 (by omega) (by omega)).symm) (LR_road O'.1 s.1 a0 (by omega) b0 (by omega) (fun k q => (rN_o a0 (by omega) b0 (by omega) (by omega)).symm) (fun u v u0 u1 v0 v1 => ?_))
  rw [rN_uv a0 (by omega) b0 (by omega) u v u0 u1 v0 v1]
  by_cases q : (u = a ∧ v = b) ∨ (u = b ∧ v = a)
  · rw [if_pos q]
    rcases q with ⟨q1, q2⟩ | ⟨q1, q2⟩
    · rw [q1, q2]
    · rw [q1, q2]; exact (O.1.2.2 b a b0 (by omega) a0 (by omega)).2.1
  · rw [if_neg q, if_neg q]
theorem S_road {h : am_H} {N : Int → Int} {n a b l : Int} {K W B : Int → Int} {P : Int → am_H → Prop} (O : OK N) (T : ST h N) (n0 : 0 ≤ n) (n6 : n ≤ 6) (C : CH h n K W B) (hf : am_ok (h 0 13 + 1)) (H1 : ¬ ((0 ≤ a ∧ a < N 0) ∧ (0 ≤ b ∧ b < N 0) ∧ 0 ≤ l ∧ l ≤ 99) → P (-100001) (am_up h 0 13 (h 0 13 + 1))) (H2 : ((0 ≤ a ∧ a < N 0) ∧ (0 ≤ b ∧ b < N 0) ∧ 0 ≤ l ∧ l ≤ 99) → a = b → P (-100003) (am_up h 0 13 (h 0 13 + 1))) (H3 : ((0 ≤ a ∧ a < N 0) ∧ (0 ≤ b ∧ b < N 0) ∧ 0 ≤ l ∧ l ≤ 99) → a ≠ b → ∀ h1, AF h h1 → CH h1 (n1 n) (psh n K 1) (psh n W (a * 12 + b)) (psh n B (N (46 + 12 * a + b))) → ST h1 (rN N a b l) → P (N (46 + 12 * a + b)) h1) : ∃ a_ h_, am_cd 3 155 [.inr (.inr 0), .inl a, .inl b, .inl l] h (some (.inl a_)) h_ ∧ P a_ h_ := by
  have z := O.1.1
  refine e_At_road ?_
  rw [T.1.1]
  refine ⟨fun c => ⟨fun c2 => ⟨fun c3 => ⟨hf, H1 (by omega)⟩, fun c3 => ⟨fun c4 => ⟨fun c5 => ⟨⟨by omega, by omega⟩, by omega, ?_⟩, fun c5 => ⟨hf, H2 (by omega) c5⟩⟩, fun c4 => ⟨hf, H1 (by omega)⟩⟩⟩, fun c2 => ⟨hf, H1 (by omega)⟩⟩, fun c => ⟨hf, H1 (by omega)⟩⟩
  rw [T.1.2.2 a b c.1 (by omega) c2.1 (by omega)]
  refine am_liftv (Nat.le_of_ble_eq_true rfl) (S_note n0 n6 C (fun h1 f1 w1 => ⟨⟨by omega, by omega⟩, by omega, H3 (by omega) c5 _ ⟨fun p p1 p2 => ?_, ?_⟩ (CH_of (fun p p1 p2 => ?_) w1) ?_⟩))
  · rw [up_ne (by omega), up_ne (by omega)]; exact f1 p (by omega) (by omega) (by omega) (by omega)
  · rw [up_ne (by decide), up_ne (by decide), f1 0 (by decide) (by decide) (by decide) (by decide)]
  · rw [up_ne (by omega), up_ne (by omega)]
  · have T1 := ST_note f1 T
    exact ST_L O T1 (fun p p1 p2 => by rw [up_ne (by omega), up_ne (by omega)]) (by rw [up_ne (by decide), up_ne (by decide)]) (fun k q => rN_o c.1 (by omega) c2.1 (by omega) (by omega)) (LR_road O.1 T1.1 c.1 (by omega) c2.1 (by omega) (fun k q => rN_o c.1 (by omega) c2.1 (by omega) (by omega)) (rN_uv c.1 (by omega) c2.1 (by omega)))
theorem S_Mroad {h : am_H} {N : Int → Int} {n a b l : Int} {S : Int → Int → Int} {P : Int → am_H → Prop} (O : OK N) (eN : h 57 = N) (n0 : 0 ≤ n) (n6 : n ≤ 6) (C : MH h n S) (hf : am_ok (h 56 3 + 1)) (H1 : ¬ ((0 ≤ a ∧ a < N 0) ∧ (0 ≤ b ∧ b < N 0) ∧ 0 ≤ l ∧ l ≤ 99) → P (-100001) (am_up h 56 3 (h 56 3 + 1))) (H2 : ((0 ≤ a ∧ a < N 0) ∧ (0 ≤ b ∧ b < N 0) ∧ 0 ≤ l ∧ l ≤ 99) → a = b → P (-100003) (am_up h 56 3 (h 56 3 + 1))) (H3 : ((0 ≤ a ∧ a < N 0) ∧ (0 ≤ b ∧ b < N 0) ∧ 0 ≤ l ∧ l ≤ 99) → a ≠ b → ∀ h1, MAF h h1 → MH h1 (n1 n) (psh n S N) → h1 57 = rN N a b l → P (N (46 + 12 * a + b)) h1) : ∃ a_ h_, am_cd 3 161 [.inr (.inr 56), .inl a, .inl b, .inl l] h (some (.inl a_)) h_ ∧ P a_ h_ := by
  have z := O.1.1
  refine e_Mo_road ?_
  rw [eN]
  refine ⟨by omega, fun c => ⟨fun c2 => ⟨fun c3 => ⟨fun c5 => am_liftv (Nat.le_of_ble_eq_true rfl) (S_Mkeep n0 n6 C (fun h1 f1 g1 c1 => ?_)), fun c5 => ⟨hf, H2 (by omega) c5⟩⟩, fun c3 => ⟨hf, H1 (by omega)⟩⟩, fun c2 => ⟨hf, H1 (by omega)⟩⟩, fun c => ⟨hf, H1 (by omega)⟩⟩
  have e57 : h1 57 = N := (f1 57 (by decide) (by decide)).trans eN
  rw [eN] at c1
  rw [e57]
  refine ⟨⟨by omega, by omega, by omega, by omega⟩, ⟨by omega, by omega, by omega, by omega⟩, H3 (by omega) c5 _ ⟨fun p p1 p2 p3 => by rw [up_ne p2, up_ne p2]; exact f1 p p1 p3, fun j j2 => by rw [up_ne (by decide), up_ne (by decide)]; exact g1 j j2⟩ (MH_of (by rw [up_ne (by decide), up_ne (by decide)]) (by rw [up_ne (by decide), up_ne (by decide)]) c1) ?_⟩
  rw [up_f, up_f, e57]; rfl
