/-! the state, and the chain of what may be undone -/
def ag (N M : Int → Int) : Prop := ∀ k, 0 ≤ k → k < 820 → N k = M k
theorem ag_sym {N M : Int → Int} (h : ag N M) : ag M N := fun k k0 k1 => (h k k0 k1).symm
theorem ed_cg {A B A' B' : Int → Int} : ∀ i j : Nat, (∀ x : Int, 0 ≤ x → x < i → A x = A' x) → (∀ x : Int, 0 ≤ x → x < j → B x = B' x) → ed A B i j = ed A' B' i j := by
  intro i
  induction i with
  | zero => intro j _ _; rfl
  | succ i ih =>
    intro j ha hb
    induction j with
    | zero => rw [ed_i0, ed_i0]
    | succ j ihj =>
      rw [ed_ss, ed_ss, ih j (fun x x0 x1 => ha x x0 (by omega)) (fun x x0 x1 => hb x x0 (by omega)), ih (j + 1) (fun x x0 x1 => ha x x0 (by omega)) hb, ihj (fun x x0 x1 => hb x x0 (by omega)), ha i (by omega) (by omega), hb j (by omega) (by omega)]
theorem far_cg {N M : Int → Int} {f g : Int} (F : OF N) (f0 : 0 ≤ f) (f1 : f < N 2) (g0 : 0 ≤ g) (g1 : g < N 2) (e : ∀ k, 250 ≤ k → k < 250 + 9 * N 2 → N k = M k) : far N f g = far M f g := by
  have a := (F.2 f f0 f1).1
  have b := (F.2 g g0 g1).1
  unfold far fr
  rw [← e (250 + 9 * f) (by omega) (by omega), ← e (250 + 9 * g) (by omega) (by omega)]
  exact ed_cg _ _ (fun x x0 x1 => e _ (by omega) (by omega)) (fun x x0 x1 => e _ (by omega) (by omega))
theorem OL_cg {N M : Int → Int} (e : ag N M) (h : OL N) : OL M := by
  have h0 := h.1
  have e0 := e 0 (by omega) (by omega)
  unfold OL
  rw [← e0]
  refine ⟨h0, fun v v0 v1 => ?_, fun a b a0 a1 b0 b1 => ?_⟩
  · rw [← e (10 + 3 * v) (by omega) (by omega), ← e (11 + 3 * v) (by omega) (by omega), ← e (12 + 3 * v) (by omega) (by omega)]; exact h.2.1 v v0 v1
  · rw [← e (46 + 12 * a + b) (by omega) (by omega), ← e (46 + 12 * b + a) (by omega) (by omega)]; exact h.2.2 a b a0 a1 b0 b1
theorem OP_cg {N M : Int → Int} (e : ag N M) (h : OP N) : OP M := by
  have h0 := h.1
  unfold OP
  rw [← e 0 (by omega) (by omega), ← e 1 (by omega) (by omega)]
  refine ⟨h0, fun w w0 w1 => ?_⟩
  rw [← e (190 + 3 * w) (by omega) (by omega), ← e (191 + 3 * w) (by omega) (by omega), ← e (192 + 3 * w) (by omega) (by omega)]; exact h.2 w w0 w1
theorem OF_cg {N M : Int → Int} (e : ag N M) (h : OF N) : OF M := by
  have h0 := h.1
  unfold OF
  rw [← e 2 (by omega) (by omega)]
  refine ⟨h0, fun f f0 f1 => ?_⟩
  rw [← e (250 + 9 * f) (by omega) (by omega)]
  have k := h.2 f f0 f1
  refine ⟨k.1, fun i i0 i1 => ?_⟩
  rw [← e (251 + 9 * f + i) (by omega) (by omega)]; exact k.2 i i0 i1
theorem OA_cg {N M : Int → Int} (e : ag N M) (h : OA N) : OA M := by
  have h0 := h.1
  unfold OA
  rw [← e 1 (by omega) (by omega), ← e 2 (by omega) (by omega), ← e 3 (by omega) (by omega)]
  refine ⟨h0, fun a a0 a1 => ?_⟩
  rw [← e (520 + 5 * a) (by omega) (by omega), ← e (521 + 5 * a) (by omega) (by omega), ← e (522 + 5 * a) (by omega) (by omega), ← e (523 + 5 * a) (by omega) (by omega), ← e (524 + 5 * a) (by omega) (by omega)]; exact h.2 a a0 a1
def OK (N : Int → Int) : Prop := OL N ∧ OP N ∧ OF N ∧ OA N ∧ 0 ≤ N 4 ∧ N 4 ≤ 999
theorem OK_cg {N M : Int → Int} (e : ag N M) (h : OK N) : OK M := ⟨OL_cg e h.1, OP_cg e h.2.1, OF_cg e h.2.2.1, OA_cg e h.2.2.2.1, by rw [← e 4 (by omega) (by omega)]; exact h.2.2.2.2⟩
def ST (h : am_H) (N : Int → Int) : Prop := LR h N ∧ PR h N ∧ FR h N ∧ AR h N ∧ MR h N ∧ h 0 12 = N 4
theorem ST_cg {h : am_H} {N M : Int → Int} (O : OK N) (e : ag N M) (H : ST h N) : ST h M := by
  obtain ⟨L, P, F, A, X, d⟩ := H
  have o0 := O.1.1
  have o1 := O.2.1.1
  have o2 := O.2.2.1.1
  have o3 := O.2.2.2.1.1
  refine ⟨?_, ?_, ?_, ?_, ?_, ?_⟩
  · unfold LR
    rw [← e 0 (by omega) (by omega)]
    refine ⟨L.1, fun v v0 v1 => ?_, fun a b a0 a1 b0 b1 => ?_⟩
    · rw [← e (10 + 3 * v) (by omega) (by omega), ← e (11 + 3 * v) (by omega) (by omega), ← e (12 + 3 * v) (by omega) (by omega)]; exact L.2.1 v v0 v1
    · rw [← e (46 + 12 * a + b) (by omega) (by omega)]; exact L.2.2 a b a0 a1 b0 b1
  · unfold PR
    rw [← e 1 (by omega) (by omega)]
    refine ⟨P.1, fun w w0 w1 => ?_⟩
    rw [← e (190 + 3 * w) (by omega) (by omega), ← e (191 + 3 * w) (by omega) (by omega), ← e (192 + 3 * w) (by omega) (by omega)]; exact P.2 w w0 w1
  · unfold FR
    rw [← e 2 (by omega) (by omega)]
    refine ⟨F.1, fun f f0 f1 => ?_⟩
    rw [← e (250 + 9 * f) (by omega) (by omega)]
    have k := F.2 f f0 f1
    have k2 := (O.2.2.1.2 f f0 f1).1
    refine ⟨k.1, fun i i0 i1 => ?_⟩
    rw [← e (251 + 9 * f + i) (by omega) (by omega)]; exact k.2 i i0 i1
  · unfold AR
    rw [← e 3 (by omega) (by omega)]
    refine ⟨A.1, fun a a0 a1 => ?_⟩
    rw [← e (520 + 5 * a) (by omega) (by omega), ← e (521 + 5 * a) (by omega) (by omega), ← e (522 + 5 * a) (by omega) (by omega), ← e (523 + 5 * a) (by omega) (by omega), ← e (524 + 5 * a) (by omega) (by omega)]; exact A.2 a a0 a1
  · intro f g g0 g1 f1
    rw [← e 2 (by omega) (by omega)] at f1
    rw [← far_cg (M := M) O.2.2.1 (by omega) f1 g0 (by omega) (fun k k0 k1 => e k (by omega) (by omega))]
    exact X f g g0 g1 f1
  · rw [← e 4 (by omega) (by omega)]; exact d
theorem ST_of {h h1 : am_H} {N : Int → Int} (e0 : h1 0 12 = h 0 12) (e1 : h1 1 = h 1) (e2 : h1 2 = h 2) (e3 : h1 3 = h 3) (e4 : h1 4 = h 4) (e5 : h1 5 = h 5) (e7 : h1 7 = h 7) (e8 : h1 8 = h 8) (e9 : h1 9 = h 9) (e10 : h1 10 = h 10) (e11 : h1 11 0 = h 11 0) (e12 : h1 12 = h 12) (e13 : h1 13 = h 13) (e15 : MR h N → MR h1 N) (e17 : h1 17 = h 17) (e18 : h1 18 = h 18) (e19 : h1 19 = h 19) (e20 : h1 20 = h 20) (e21 : h1 21 = h 21) (e22 : h1 22 = h 22) (H : ST h N) : ST h1 N := by
  obtain ⟨L, P, F, A, X, d⟩ := H
  refine ⟨LR_of e1 e2 e3 e4 e5 L, ?_, FR_of e11 e12 e13 F, ?_, e15 X, e0.trans d⟩
  · unfold PR; rw [e7, e8, e9, e10]; exact P
  · unfold AR; rw [e17, e18, e19, e20, e21, e22]; exact A
/-- a list of at most six, one more at its end -/
def psh {T : Type} (n : Int) (f : Int → T) (x : T) : Int → T := fun i => if n < 6 then (if i = n then x else f i) else (if i = 5 then x else f (i + 1))
theorem psh_a {T : Type} {n i : Int} {f : Int → T} {x : T} (c : n < 6) (q : i = n) : psh n f x i = x := by unfold psh; rw [if_pos c, if_pos q]
theorem psh_b {T : Type} {n i : Int} {f : Int → T} {x : T} (c : n < 6) (q : i ≠ n) : psh n f x i = f i := by unfold psh; rw [if_pos c, if_neg q]
theorem psh_c {T : Type} {n i : Int} {f : Int → T} {x : T} (c : ¬ n < 6) (q : i = 5) : psh n f x i = x := by unfold psh; rw [if_neg c, if_pos q]
theorem psh_d {T : Type} {n i : Int} {f : Int → T} {x : T} (c : ¬ n < 6) (q : i ≠ 5) : psh n f x i = f (i + 1) := by unfold psh; rw [if_neg c, if_neg q]
def n1 (n : Int) : Int := if n < 6 then n + 1 else 6
def CH (h : am_H) (n : Int) (K W B : Int → Int) : Prop := h 51 0 = n ∧ ∀ i, 0 ≤ i → i < n → h 52 i = K i ∧ h 53 i = W i ∧ h 54 i = B i
def MH (h : am_H) (n : Int) (S : Int → Int → Int) : Prop := h 56 2 = n ∧ ∀ i k, 0 ≤ i → i < n → 0 ≤ k → k < 820 → h 58 (820 * i + k) = S i k
theorem S_note {h : am_H} {n k w b : Int} {K W B : Int → Int} {P : am_H → Prop} (n0 : 0 ≤ n) (n6 : n ≤ 6) (C : CH h n K W B) (H : ∀ h1, (∀ p, p ≠ 51 → p ≠ 52 → p ≠ 53 → p ≠ 54 → h1 p = h p) → CH h1 (n1 n) (psh n K k) (psh n W w) (psh n B b) → P h1) : ∃ h_, am_cd 2 97 [.inr (.inr 51), .inl k, .inl w, .inl b] h none h_ ∧ P h_ := by
  refine e_History_note ?_
  rw [C.1]
  refine ⟨fun c => ⟨⟨by omega, by omega⟩, H _ (fun p p1 p2 p3 p4 => by rw [up_ne p1, up_ne p4, up_ne p3, up_ne p2]) ⟨?_, fun i i0 i1 => ?_⟩⟩, fun c => ?_⟩
  · rw [up_same, if_pos rfl]; unfold n1; rw [if_pos (by omega)]
  · unfold n1 at i1
    rw [if_pos (by omega)] at i1
    rw [up_ne (by decide), up_ne (by decide), up_ne (by decide), up_same, up_ne (by decide), up_ne (by decide), up_same, up_ne (by decide), up_ne (by decide), up_same, up_ne (by decide), up_ne (by decide)]
    have c6 : n < 6 := by omega
    by_cases q : i = n
    · rw [psh_a c6 q, psh_a c6 q, psh_a c6 q, if_pos q, if_pos q, if_pos q]; exact ⟨rfl, rfl, rfl⟩
    · rw [psh_b c6 q, psh_b c6 q, psh_b c6 q, if_neg q, if_neg q, if_neg q]; exact C.2 i i0 (by omega)
  · subst c
    have e1 : ∀ (g : am_H) (a : Nat) (x y z : Int) (q : Nat), q ≠ a → am_cp g a x a y z q = g q := fun g a x y z q hq => cp_ne hq
    refine am_liftv (Nat.le_of_ble_eq_true rfl) (e_History_forgetOldest ?_)
    rw [C.1]
    have z1 : (am_cp (am_up h 51 0 (6 - 1)) 52 1 52 0 (6 - 1)) 51 0 = 5 := by rw [cp_ne (by decide), up_same, if_pos rfl]; rfl
    have z2 : ∀ x, (am_cp (am_cp (am_up h 51 0 (6 - 1)) 52 1 52 0 (6 - 1)) 53 1 53 0 x) 51 0 = 5 := fun x => by rw [cp_ne (by decide)]; exact z1
    rw [z1, z2]
    refine ⟨⟨by omega, by omega, by omega, by omega⟩, ?_⟩
    have z3 : (am_cp (am_cp (am_cp (am_up h 51 0 (6 - 1)) 52 1 52 0 (6 - 1)) 53 1 53 0 5) 54 1 54 0 5) 51 0 = 5 := by rw [cp_ne (by decide)]; exact z2 5
    rw [z3]
    refine ⟨⟨by omega, by omega⟩, H _ (fun p p1 p2 p3 p4 => by rw [up_ne p1, up_ne p4, up_ne p3, up_ne p2, cp_ne p4, cp_ne p3, cp_ne p2, up_ne p1]) ⟨?_, fun i i0 i1 => ?_⟩⟩
    · rw [up_same, if_pos rfl]; rfl
    · have i6 : i < 6 := i1
      rw [up_ne (by decide), up_ne (by decide), up_ne (by decide), up_same, up_ne (by decide), up_ne (by decide), up_same, up_ne (by decide), up_ne (by decide), up_same, up_ne (by decide), up_ne (by decide)]
      have c6 : ¬ (6 : Int) < 6 := by omega
      by_cases q : i = 5
      · rw [psh_c c6 q, psh_c c6 q, psh_c c6 q, if_pos q, if_pos q, if_pos q]; exact ⟨rfl, rfl, rfl⟩
      · rw [psh_d c6 q, psh_d c6 q, psh_d c6 q, if_neg q, if_neg q, if_neg q]
        have c1 := C.2 (i + 1) (by omega) (by omega)
        refine ⟨?_, ?_, ?_⟩
        · rw [cp_ne (by decide), cp_ne (by decide), cp_same, if_pos (by omega), up_ne (by decide), show 1 + (i - 0) = i + 1 by omega]; exact c1.1
        · rw [cp_ne (by decide), cp_same, if_pos (by omega), cp_ne (by decide), up_ne (by decide), show 1 + (i - 0) = i + 1 by omega]; exact c1.2.1
        · rw [cp_same, if_pos (by omega), cp_ne (by decide), cp_ne (by decide), up_ne (by decide), show 1 + (i - 0) = i + 1 by omega]; exact c1.2.2
theorem L_Mkeep52 {h0 : am_H} {n : Int} {S : Int → Int → Int} {P : am_H → Prop} (n0 : 0 ≤ n) (n6 : n < 6) (e2 : h0 56 2 = n) (e58 : ∀ i k, 0 ≤ i → i < n → 0 ≤ k → k < 820 → h0 58 (820 * i + k) = S i k) (H : ∀ h1, (∀ p, p ≠ 56 → p ≠ 58 → h1 p = h0 p) → (∀ j, j ≠ 2 → h1 56 j = h0 56 j) → h1 56 2 = n + 1 → (∀ i k, 0 ≤ i → i < n → 0 ≤ k → k < 820 → h1 58 (820 * i + k) = S i k) → (∀ k, 0 ≤ k → k < 820 → h1 58 (820 * n + k) = h0 57 k) → P h1) : ∀ x1 h, 0 ≤ x1 → x1 ≤ 820 → (∀ p, p ≠ 58 → h p = h0 p) → (∀ i k, 0 ≤ i → i < n → 0 ≤ k → k < 820 → h 58 (820 * i + k) = S i k) → (∀ k, 0 ≤ k → k < x1 → h 58 (820 * n + k) = h0 57 k) → am_x (am_cd 0) 77 (am_qv P) 0 52 [some (.inr (.inr 56)), some (.inl x1)] [] h := by
  refine upto 820 (fun x1 ih h a0 a1 a2 a3 a4 => ?_)
  refine g_Mo_keep_52 ?_
  rw [a2 56 (by decide), e2, a2 57 (by decide)]
  refine ⟨fun hc => ⟨by omega, H _ (fun p p1 p2 => (up_ne p1).trans (a2 p p2)) (fun j j2 => by rw [up_same, if_neg j2, a2 56 (by decide)]) (by rw [up_same, if_pos rfl]) (fun i k i0 i1 k0 k1 => by rw [up_ne (by decide)]; exact a3 i k i0 i1 k0 k1) (fun k k0 k1 => by rw [up_ne (by decide)]; exact a4 k k0 (by omega))⟩, fun hc => ⟨⟨by omega, by omega, by omega, by omega, by omega⟩, ih hc _ (by omega) (by omega) (fun p hp => (up_ne hp).trans (a2 p hp)) (fun i k i0 i1 k0 k1 => ?_) (fun k k0 k1 => ?_)⟩⟩
  · rw [up_same, if_neg (by omega)]; exact a3 i k i0 i1 k0 k1
  · rw [up_same]
    by_cases q : k = x1
    · rw [if_pos (by omega), q]
    · rw [if_neg (by omega)]; exact a4 k k0 (by omega)
theorem S_Mkeep {h : am_H} {n : Int} {S : Int → Int → Int} {P : am_H → Prop} (n0 : 0 ≤ n) (n6 : n ≤ 6) (C : MH h n S) (H : ∀ h1, (∀ p, p ≠ 56 → p ≠ 58 → h1 p = h p) → (∀ j, j ≠ 2 → h1 56 j = h 56 j) → MH h1 (n1 n) (psh n S (h 57)) → P h1) : ∃ h_, am_cd 1 77 [.inr (.inr 56)] h none h_ ∧ P h_ := by
  refine e_Mo_keep ?_
  rw [C.1]
  refine ⟨fun c => ?_, fun c => ?_⟩
  · refine L_Mkeep52 (h0 := h) (n := n) (S := S) n0 (by omega) C.1 C.2 (fun h1 f1 g1 e1 w1 w2 => H h1 f1 g1 ⟨by unfold n1; rw [if_pos (by omega)]; exact e1, fun i k i0 i1 k0 k1 => ?_⟩) 0 h (by omega) (by omega) (fun _ _ => rfl) C.2 (fun k _ _ => by omega)
    unfold n1 at i1
    rw [if_pos (by omega)] at i1
    unfold psh
    rw [if_pos (by omega)]
    by_cases q : i = n
    · rw [if_pos q, q]; exact w2 k k0 k1
    · rw [if_neg q]; exact w1 i k i0 (by omega) k0 k1
  · subst c
    have key : ∀ x1 h', 0 ≤ x1 → x1 ≤ 4100 → (∀ p, p ≠ 58 → h' p = h p) → (∀ j, 0 ≤ j → j < x1 → h' 58 j = h 58 (820 + j)) → (∀ j, x1 ≤ j → h' 58 j = h 58 j) → am_x (am_cd 0) 77 (am_qv P) 0 11 [some (.inr (.inr 56)), some (.inl x1)] [] h' := by
      refine upto 4100 (fun x1 ih h' a0 a1 a2 a3 a4 => ?_)
      refine g_Mo_keep_11 ?_
      rw [a2 56 (by decide), C.1]
      refine ⟨fun hc => ⟨by omega, ?_⟩, fun hc => ⟨⟨by omega, by omega, by omega, by omega⟩, ih hc _ (by omega) (by omega) (fun p hp => (up_ne hp).trans (a2 p hp)) (fun j j0 j1 => ?_) (fun j j1 => ?_)⟩⟩
      · have s5 : ∀ i k, 0 ≤ i → i < 5 → 0 ≤ k → k < 820 → am_up h' 56 2 (6 - 1) 58 (820 * i + k) = S (i + 1) k := fun i k i0 i1 k0 k1 => by
          rw [up_ne (by decide), a3 _ (by omega) (by omega), show 820 + (820 * i + k) = 820 * (i + 1) + k by omega]; exact C.2 (i + 1) k (by omega) (by omega) k0 k1
        refine L_Mkeep52 (h0 := am_up h' 56 2 (6 - 1)) (n := 5) (S := fun i => S (i + 1)) (by omega) (by omega) (by rw [up_same, if_pos rfl]; rfl) s5 (fun h1 f1 g1 e1 w1 w2 => H h1 (fun p p1 p2 => by rw [f1 p p1 p2, up_ne p1, a2 p p2]) (fun j j2 => by rw [g1 j j2, up_same, if_neg j2, a2 56 (by decide)]) ⟨e1, fun i k i0 i1 k0 k1 => ?_⟩) 0 _ (by omega) (by omega) (fun _ _ => rfl) s5 (fun k _ _ => by omega)
        have i6 : i < 6 := i1
        unfold psh
        rw [if_neg (by omega)]
        by_cases q : i = 5
        · rw [if_pos q, q, w2 k k0 k1, up_ne (by decide), a2 57 (by decide)]
        · rw [if_neg q]; exact w1 i k i0 (by omega) k0 k1
      · rw [up_same]
        by_cases q : j = x1
        · rw [if_pos q, q]; exact a4 _ (by omega)
        · rw [if_neg q]; exact a3 j j0 (by omega)
      · rw [up_same, if_neg (by omega)]; exact a4 j (by omega)
    exact key 0 h (by omega) (by omega) (fun _ _ => rfl) (fun j _ _ => by omega) (fun j _ => rfl)
/-- what the class does to undo an act -/
def uh (k w b : Int) (h : am_H) : am_H := if k = 0 then am_up h 1 0 (h 1 0 - 1) else if k = 1 then am_up (am_up h 5 (12 * (w / 12) + w % 12) b) 5 (12 * (w % 12) + w / 12) b else if k = 2 then am_up h 7 0 (h 7 0 - 1) else if k = 3 then am_up h 11 0 (h 11 0 - b) else if k = 4 then am_up h 17 1 (h 17 1 - 1) else if k = 5 then am_up h 22 w (-1) else am_up h 0 12 b
/-- an act may be undone: from N back to M -/
def UR (k w b : Int) (N M : Int → Int) : Prop := (k = 1 → 0 ≤ w ∧ w < 144) ∧ (k = 3 → 0 ≤ b ∧ b ≤ 1) ∧ (k = 5 → 0 ≤ w ∧ w < 60) ∧ ∀ h, ST h N → ST (uh k w b h) M
theorem UR_cg {k w b : Int} {N M N' M' : Int → Int} (O' : OK N') (OM : OK M) (e : ag N N') (e2 : ag M M') (H : UR k w b N M) : UR k w b N' M' := ⟨H.1, H.2.1, H.2.2.1, fun h s => ST_cg OM e2 (H.2.2.2 h (ST_cg O' (ag_sym e) s))⟩
def CN (n : Int) (K W B : Int → Int) (S : Int → Int → Int) (N : Int → Int) : Prop := (0 ≤ n ∧ n ≤ 6) ∧ (∀ i, 0 ≤ i → i < n → OK (S i)) ∧ (∀ i, 0 ≤ i → i + 1 < n → UR (K i) (W i) (B i) (S (i + 1)) (S i)) ∧ (0 < n → UR (K (n - 1)) (W (n - 1)) (B (n - 1)) N (S (n - 1)))
theorem CN_psh {n k w b : Int} {K W B : Int → Int} {S : Int → Int → Int} {N N' : Int → Int} (C : CN n K W B S N) (O : OK N) (U : UR k w b N' N) : CN (n1 n) (psh n K k) (psh n W w) (psh n B b) (psh n S N) N' := by
  have hn := C.1
  by_cases c : n < 6
  · have e : n1 n = n + 1 := by unfold n1; rw [if_pos c]
    rw [e]
    refine ⟨by omega, fun i i0 i1 => ?_, fun i i0 i1 => ?_, fun _ => ?_⟩
    · by_cases q : i = n
      · rw [psh_a c q]; exact O
      · rw [psh_b c q]; exact C.2.1 i i0 (by omega)
    · have q0 : i ≠ n := by omega
      rw [psh_b (f := K) c q0, psh_b (f := W) c q0, psh_b (f := B) c q0, psh_b (f := S) c q0]
      by_cases q : i + 1 = n
      · rw [psh_a c q]
        have := C.2.2.2 (by omega)
        rw [show n - 1 = i by omega] at this
        exact this
      · rw [psh_b c q]; exact C.2.2.1 i i0 (by omega)
    · have q0 : n + 1 - 1 = n := by omega
      rw [psh_a (f := K) c q0, psh_a (f := W) c q0, psh_a (f := B) c q0, psh_a (f := S) c q0]; exact U
  · have e : n1 n = 6 := by unfold n1; rw [if_neg c]
    have n6 : n = 6 := by omega
    rw [e]
    refine ⟨by omega, fun i i0 i1 => ?_, fun i i0 i1 => ?_, fun _ => ?_⟩
    · by_cases q : i = 5
      · rw [psh_c c q]; exact O
      · rw [psh_d c q]; exact C.2.1 (i + 1) (by omega) (by omega)
    · have q0 : i ≠ 5 := by omega
      rw [psh_d (f := K) c q0, psh_d (f := W) c q0, psh_d (f := B) c q0, psh_d (f := S) c q0]
      by_cases q : i + 1 = 5
      · rw [psh_c c q]
        have := C.2.2.2 (by omega)
        rw [show n - 1 = i + 1 by omega] at this
        exact this
      · rw [psh_d c q]; exact C.2.2.1 (i + 1) (by omega) (by omega)
    · have q0 : (6 : Int) - 1 = 5 := by omega
      rw [psh_c (f := K) c q0, psh_c (f := W) c q0, psh_c (f := B) c q0, psh_c (f := S) c q0]; exact U
