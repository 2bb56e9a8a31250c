/-! the reference's form -/
theorem L_Mform242 {h0 : am_H} {N : Int → Int} {s : Int} {y : Int64} {P : Int → am_H → Prop} (f0 : 0 ≤ N 2) (nn : N 2 < 30) (g : gd s y) (H : ∀ h, (∀ p, p ≠ 57 → h p = h0 p) → h 57 = fN N s y → P (N 2) h) : ∀ x7 h, 0 ≤ x7 → x7 ≤ s → (∀ p, p ≠ 57 → h p = h0 p) → (∀ j, h 57 j = if j = 2 then N 2 + 1 else if j = 250 + 9 * N 2 then s else if 251 + 9 * N 2 ≤ j ∧ j < 251 + 9 * N 2 + x7 then byt y (j - (251 + 9 * N 2)) else N j) → am_x (am_cd 1) 123 (am_qi P) 0 242 [some (.inr (.inr 56)), some (.inl s), some (.inr (.inl y)), none, none, none, some (.inl (N 2)), some (.inl x7), none] [] h := by
  have s1 := g.2.1
  refine upto s (fun x7 ih h a0 a1 a2 a3 => ?_)
  refine g_Mo_form_242 ⟨fun hc => H h a2 ?_, fun hc => ⟨⟨by omega, by omega, by omega, by omega, by omega, by omega, by omega⟩, ih hc _ (by omega) (by omega) (fun p hp => (up_ne hp).trans (a2 p hp)) (fun j => ?_)⟩⟩
  · funext j
    rw [a3 j, show x7 = s by omega]; rfl
  · rw [up_same, byt_m a0 (by omega), a3 j]
    by_cases q : j = 251 + 9 * N 2 + x7
    · rw [if_pos q, if_neg (by omega), if_neg (by omega), if_pos (by omega), show j - (251 + 9 * N 2) = x7 by omega]
    · rw [if_neg q]
      by_cases q1 : j = 2
      · rw [if_pos q1, if_pos q1]
      · rw [if_neg q1, if_neg q1]
        by_cases q2 : j = 250 + 9 * N 2
        · rw [if_pos q2, if_pos q2]
        · rw [if_neg q2, if_neg q2]
          by_cases q3 : 251 + 9 * N 2 ≤ j ∧ j < 251 + 9 * N 2 + x7
          · rw [if_pos q3, if_pos (by omega)]
          · rw [if_neg q3, if_neg (by omega)]
theorem L_Mform104 {h : am_H} {N : Int → Int} {s x5 x6 : Int} {y : Int64} {P : Int → am_H → Prop} (s1 : s ≤ 8) (eN : h 57 = N) (x60 : 0 ≤ x6) (x61 : x6 < 30) (H1 : lk N x6 s (byt y) → am_ok (x6 + (-1)) ∧ am_x (am_cd 1) 123 (am_qi P) 0 79 [some (.inr (.inr 56)), some (.inl s), some (.inr (.inl y)), none, none, some (.inl x6), some (.inl (x6 + (-1))), none, none] [] h) (H0 : ¬ lk N x6 s (byt y) → am_ok (x6 + (-1)) ∧ am_x (am_cd 1) 123 (am_qi P) 0 79 [some (.inr (.inr 56)), some (.inl s), some (.inr (.inl y)), none, none, some (.inl x5), some (.inl (x6 + (-1))), none, none] [] h) : ∀ x8 x7, 0 ≤ x8 → x8 ≤ s → ((x7 = 0 ∧ ¬ lk N x6 s (byt y)) ∨ (x7 ≠ 0 ∧ N (250 + 9 * x6) = s ∧ ∀ i, 0 ≤ i → i < x8 → N (251 + 9 * x6 + i) = byt y i)) → am_x (am_cd 1) 123 (am_qi P) 0 104 [some (.inr (.inr 56)), some (.inl s), some (.inr (.inl y)), none, none, some (.inl x5), some (.inl x6), some (.inl x7), some (.inl x8)] [] h := by
  refine upto s (fun x8 ih x7 a0 a1 a2 => ?_)
  refine g_Mo_form_104 ?_
  rw [eN]
  refine ⟨fun hc => ⟨fun c => H0 ?_, fun c => H1 ?_⟩, fun hc => ⟨fun c => H0 ?_, fun c => ?_⟩⟩
  · rcases a2 with z | z
    · exact z.2
    · exact absurd c z.1
  · rcases a2 with z | z
    · exact absurd z.1 c
    · exact ⟨z.2.1, fun i i0 i1 => z.2.2 i i0 (by omega)⟩
  · rcases a2 with z | z
    · exact z.2
    · exact absurd c z.1
  · rcases a2 with z | z
    · exact absurd z.1 c
    · rw [byt_m a0 (by omega)]
      refine ⟨⟨by omega, by omega, by omega, by omega, by omega⟩, by omega, fun c2 => ⟨by omega, ih hc _ (by omega) (by omega) (.inl ⟨rfl, fun k => c2 (k.2 x8 a0 hc)⟩)⟩, fun c2 => ⟨by omega, ih hc _ (by omega) (by omega) (.inr ⟨by omega, z.2.1, fun i i0 i1 => ?_⟩)⟩⟩
      rcases (show i = x8 ∨ i < x8 by omega) with q | q
      · rw [q]; exact c2
      · exact z.2.2 i i0 q
theorem S_Mform {h : am_H} {N : Int → Int} {n s : Int} {y : Int64} {S : Int → Int → Int} {P : Int → am_H → Prop} (O : OK N) (eN : h 57 = N) (n0 : 0 ≤ n) (n6 : n ≤ 6) (C : MH h n S) (hf : am_ok (h 56 3 + 1)) (H1 : ¬ gd s y → P (-100001) (am_up h 56 3 (h 56 3 + 1))) (H2 : gd s y → fnd N s (byt y) (-1) → N 2 = 30 → P (-100005) (am_up h 56 3 (h 56 3 + 1))) (H3 : gd s y → fnd N s (byt y) (-1) → N 2 < 30 → ∀ h1, MAF h h1 → MH h1 (n1 n) (psh n S N) → h1 57 = fN N s y → P (N 2) h1) (H4 : gd s y → ∀ r, 0 ≤ r → fnd N s (byt y) r → ∀ h1, MAF h h1 → MH h1 (n1 n) (psh n S N) → h1 57 = N → P r h1) : ∃ a_ h_, am_cd 2 123 [.inr (.inr 56), .inl s, .inr (.inl y)] h (some (.inl a_)) h_ ∧ P a_ h_ := by
  have f0 := O.2.2.1.1
  have find : gd s y → ∀ x6 x5, -1 ≤ x6 → x6 < N 2 → ((x5 = -1 ∧ ∀ f, x6 < f → f < N 2 → ¬ lk N f s (byt y)) ∨ (x6 < x5 ∧ x5 < N 2 ∧ lk N x5 s (byt y) ∧ ∀ f, x6 < f → f < x5 → ¬ lk N f s (byt y))) → am_x (am_cd 1) 123 (am_qi P) 0 79 [some (.inr (.inr 56)), some (.inl s), some (.inr (.inl y)), none, none, some (.inl x5), some (.inl x6), none, none] [] h := by
    intro g
    have s1 := g.2.1
    refine downto 0 (fun x6 ih x5 a0 a1 a2 => ?_)
    refine g_Mo_form_79 ?_
    rw [eN]
    refine ⟨fun hc => ?_, fun hc => ⟨⟨by omega, by omega, by omega⟩, ?_⟩⟩
    · have e6 : x6 = -1 := by omega
      subst e6
      have fd : fnd N s (byt y) x5 := by
        rcases a2 with z | z
        · exact .inl ⟨z.1, fun f g0 g1 => z.2 f (by omega) g1⟩
        · exact .inr ⟨by omega, z.2.1, z.2.2.1, fun f g0 g1 => z.2.2.2 f (by omega) g1⟩
      refine ⟨fun c => am_liftv (Nat.le_of_ble_eq_true rfl) (S_Mkeep n0 n6 C (fun h1 f1 g1 c1 => ?_)), fun c => ?_⟩
      · rw [eN] at c1
        exact H4 g x5 c fd h1 ⟨fun p p1 p2 p3 => f1 p p1 p3, g1⟩ c1 ((f1 57 (by decide) (by decide)).trans eN)
      · have e5 : x5 = -1 := by rcases a2 with z | z <;> omega
        rw [e5] at fd
        refine ⟨fun c2 => am_liftv (Nat.le_of_ble_eq_true rfl) (S_Mkeep n0 n6 C (fun h1 f1 g1 c1 => ?_)), fun c2 => ⟨hf, H2 g fd c2⟩⟩
        rw [eN] at c1
        have e57 : h1 57 = N := (f1 57 (by decide) (by decide)).trans eN
        rw [e57]
        have u : ∀ p, p ≠ 57 → am_up (am_up h1 57 2 (N 2 + 1)) 57 (250 + 9 * N 2) s p = h1 p := fun p hp => by rw [up_ne hp, up_ne hp]
        refine ⟨⟨by omega, by omega, by omega, by omega⟩, L_Mform242 (h0 := am_up (am_up h1 57 2 (N 2 + 1)) 57 (250 + 9 * N 2) s) (N := N) f0.1 (by omega) g (fun h2 f2 w2 => H3 g fd (by omega) h2 ⟨fun p p1 p2 p3 => by rw [f2 p p2, u p p2]; exact f1 p p1 p3, fun j j2 => by rw [f2 56 (by decide), u 56 (by decide)]; exact g1 j j2⟩ (MH_of (by rw [f2 56 (by decide), u 56 (by decide)]) (by rw [f2 58 (by decide), u 58 (by decide)]) c1) w2) 0 _ (by omega) (by have := g.1; omega) (fun _ _ => rfl) (fun j => ?_)⟩
        rw [up_same, up_same, e57]
        by_cases q1 : j = 2
        · rw [if_neg (by omega), if_pos q1, if_pos q1]
        · rw [if_neg q1, if_neg q1]
          by_cases q2 : j = 250 + 9 * N 2
          · rw [if_pos q2, if_pos q2]
          · rw [if_neg q2, if_neg q2, if_neg (by omega)]
    · have go : ∀ x7, ((x7 = 0 ∧ ¬ lk N x6 s (byt y)) ∨ (x7 ≠ 0 ∧ N (250 + 9 * x6) = s ∧ ∀ i, 0 ≤ i → i < 0 → N (251 + 9 * x6 + i) = byt y i)) → am_x (am_cd 1) 123 (am_qi P) 0 104 [some (.inr (.inr 56)), some (.inl s), some (.inr (.inl y)), none, none, some (.inl x5), some (.inl x6), some (.inl x7), some (.inl 0)] [] h := fun x7 z => L_Mform104 s1 eN hc (by omega) (fun k => ⟨by omega, ih (by omega) x6 (by omega) (by omega) (.inr ⟨by omega, a1, k, fun f g0 g1 => by omega⟩)⟩) (fun k => ⟨by omega, ih (by omega) x5 (by omega) (by omega) (by
        rcases a2 with z | z
        · refine .inl ⟨z.1, fun f g0 g1 => ?_⟩
          rcases (show f = x6 ∨ x6 < f by omega) with q | q
          · rw [q]; exact k
          · exact z.2 f q g1
        · refine .inr ⟨by omega, z.2.1, z.2.2.1, fun f g0 g1 => ?_⟩
          rcases (show f = x6 ∨ x6 < f by omega) with q | q
          · rw [q]; exact k
          · exact z.2.2.2 f q g1)⟩) 0 x7 (by omega) (by have := g.1; omega) z
      exact ⟨fun c => go 0 (.inl ⟨rfl, fun k => c k.1⟩), fun c => go 1 (.inr ⟨by omega, c, fun i i0 i1 => by omega⟩)⟩
  have key : ∀ x5 x4, 0 ≤ x5 → ((x4 = 0 ∧ ¬ gd s y) ∨ (x4 ≠ 0 ∧ 1 ≤ s ∧ s ≤ 8 ∧ x5 ≤ s ∧ ∀ i, 0 ≤ i → i < x5 → byt y i < 26)) → am_x (am_cd 1) 123 (am_qi P) 0 12 [some (.inr (.inr 56)), some (.inl s), some (.inr (.inl y)), none, some (.inl x4), some (.inl x5), none, none, none] [] h := by
    refine upto s (fun x5 ih x4 a0 a1 => ?_)
    refine g_Mo_form_12 ?_
    rw [eN]
    refine ⟨fun hc => ⟨fun c => ?_, fun c => ⟨hf, H1 ?_⟩⟩, fun hc => ⟨fun c => ⟨hf, H1 ?_⟩, fun c => ?_⟩⟩
    · rcases a1 with z | z
      · exact absurd z.1 c
      · exact ⟨by omega, find ⟨z.2.1, z.2.2.1, fun i i0 i1 => z.2.2.2.2 i i0 (by omega)⟩ _ (-1) (by omega) (by omega) (.inl ⟨rfl, fun f g0 g1 => by omega⟩)⟩
    · rcases a1 with z | z
      · exact z.2
      · exact absurd c z.1
    · rcases a1 with z | z
      · exact z.2
      · exact absurd c z.1
    · rcases a1 with z | z
      · exact absurd z.1 c
      · have lc := byt_lc (y := y) a0 (show x5 < 8 by omega)
        refine ⟨by omega, fun c2 => ⟨by omega, ih hc 0 (by omega) (.inl ⟨rfl, fun k => ?_⟩)⟩, fun c2 => ⟨by omega, ih hc 1 (by omega) (.inr ⟨by omega, z.2.1, z.2.2.1, by omega, fun i i0 i1 => ?_⟩)⟩⟩
        · have := lc.mpr (k.2.2 x5 a0 hc); omega
        · rcases (show i = x5 ∨ i < x5 by omega) with q | q
          · rw [q]; exact lc.mp c2
          · exact z.2.2.2.2 i i0 q
  refine e_Mo_form ⟨fun c => key 0 1 (by omega) (.inr ⟨by omega, c.1, c.2, by omega, fun i _ _ => by omega⟩), fun c => key 0 0 (by omega) (.inl ⟨rfl, fun k => c ⟨k.1, k.2.1⟩⟩)⟩
