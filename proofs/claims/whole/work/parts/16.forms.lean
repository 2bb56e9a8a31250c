/-! forms, and how far they are from each other -/
def cst (a b : Int) : Int := if a = b then 0 else if a / 5 = b / 5 then 1 else 3
theorem cst_bd (a b : Int) : 0 ≤ cst a b ∧ cst a b ≤ 3 := by unfold cst; split; omega; split <;> omega
theorem cst_sym (a b : Int) : cst a b = cst b a := by
  unfold cst
  by_cases q : a = b
  · rw [if_pos q, if_pos q.symm]
  · rw [if_neg q, if_neg (show ¬ b = a from fun e => q e.symm)]
    by_cases k : a / 5 = b / 5
    · rw [if_pos k, if_pos k.symm]
    · rw [if_neg k, if_neg (show ¬ b / 5 = a / 5 from fun e => k e.symm)]
def edr (p : Nat → Int) (c : Nat → Int) (i : Nat) : Nat → Int
  | 0 => 2 * ((i : Int) + 1)
  | j + 1 => min (p j + c j) (min (p (j + 1)) (edr p c i j) + 2)
def ed (A B : Int → Int) : Nat → Nat → Int
  | 0 => fun j => 2 * (j : Int)
  | i + 1 => edr (ed A B i) (fun j => cst (A i) (B j)) i
theorem ed_i0 (A B : Int → Int) : ∀ i : Nat, ed A B i 0 = 2 * (i : Int)
  | 0 => rfl
  | i + 1 => by show 2 * ((i : Int) + 1) = _; omega
theorem ed_ss (A B : Int → Int) (i j : Nat) : ed A B (i + 1) (j + 1) = min (ed A B i j + cst (A i) (B j)) (min (ed A B i (j + 1)) (ed A B (i + 1) j) + 2) := rfl
theorem ed_sym (A B : Int → Int) : ∀ i j : Nat, ed A B i j = ed B A j i := by
  intro i
  induction i with
  | zero => intro j; rw [ed_i0]; rfl
  | succ i ih =>
    intro j
    induction j with
    | zero => rw [ed_i0]; rfl
    | succ j ihj => rw [ed_ss, ed_ss, ih j, ih (j + 1), ihj, cst_sym]; omega
theorem ed_bd (A B : Int → Int) : ∀ i j : Nat, 0 ≤ ed A B i j ∧ ed A B i j ≤ 2 * ((i : Int) + j) := by
  intro i
  induction i with
  | zero => intro j; show 0 ≤ 2 * (j : Int) ∧ 2 * (j : Int) ≤ _; omega
  | succ i ih =>
    intro j
    induction j with
    | zero => rw [ed_i0]; omega
    | succ j ihj =>
      rw [ed_ss]
      have := ih j
      have := ih (j + 1)
      have := cst_bd (A i) (B j)
      omega
def fr (N : Int → Int) (f g i j : Int) : Int := ed (fun i => N (251 + 9 * f + i)) (fun j => N (251 + 9 * g + j)) i.toNat j.toNat
theorem fr_0 {N : Int → Int} {f g j : Int} (h : 0 ≤ j) : fr N f g 0 j = 2 * j := by
  unfold fr
  show 2 * (j.toNat : Int) = _
  omega
theorem fr_z {N : Int → Int} {f g i : Int} (h : 0 ≤ i) : fr N f g i 0 = 2 * i := by
  unfold fr
  rw [show (0 : Int).toNat = 0 from rfl, ed_i0]
  omega
theorem fr_s {N : Int → Int} {f g i j : Int} (hi : 0 ≤ i) (hj : 0 ≤ j) : fr N f g (i + 1) (j + 1) = min (fr N f g i j + cst (N (251 + 9 * f + i)) (N (251 + 9 * g + j))) (min (fr N f g i (j + 1)) (fr N f g (i + 1) j) + 2) := by
  unfold fr
  rw [show (i + 1).toNat = i.toNat + 1 by omega, show (j + 1).toNat = j.toNat + 1 by omega, ed_ss, show ((i.toNat : Nat) : Int) = i by omega, show ((j.toNat : Nat) : Int) = j by omega]
theorem fr_sym {N : Int → Int} {f g i j : Int} : fr N f g i j = fr N g f j i := ed_sym _ _ _ _
theorem fr_bd {N : Int → Int} {f g i j : Int} (hi : 0 ≤ i) (hj : 0 ≤ j) : 0 ≤ fr N f g i j ∧ fr N f g i j ≤ 2 * (i + j) := by
  unfold fr
  have := ed_bd (fun i => N (251 + 9 * f + i)) (fun j => N (251 + 9 * g + j)) i.toNat j.toNat
  omega
def far (N : Int → Int) (f g : Int) : Int := fr N f g (N (250 + 9 * f)) (N (250 + 9 * g))
theorem far_sym {N : Int → Int} {f g : Int} : far N f g = far N g f := fr_sym
def OF (N : Int → Int) : Prop := (0 ≤ N 2 ∧ N 2 ≤ 30) ∧ ∀ f, 0 ≤ f → f < N 2 → (1 ≤ N (250 + 9 * f) ∧ N (250 + 9 * f) ≤ 8) ∧ ∀ i, 0 ≤ i → i < N (250 + 9 * f) → 0 ≤ N (251 + 9 * f + i) ∧ N (251 + 9 * f + i) ≤ 25
theorem far_bd {N : Int → Int} {f g : Int} (O : OF N) (f0 : 0 ≤ f) (f1 : f < N 2) (g0 : 0 ≤ g) (g1 : g < N 2) : 0 ≤ far N f g ∧ far N f g ≤ 32 := by
  have a := (O.2 f f0 f1).1
  have b := (O.2 g g0 g1).1
  have := fr_bd (N := N) (f := f) (g := g) (show 0 ≤ N (250 + 9 * f) by omega) (show 0 ≤ N (250 + 9 * g) by omega)
  unfold far
  omega
def FR (h : am_H) (N : Int → Int) : Prop := h 11 0 = N 2 ∧ ∀ f, 0 ≤ f → f < N 2 → h 12 f = N (250 + 9 * f) ∧ ∀ i, 0 ≤ i → i < N (250 + 9 * f) → h 13 (8 * f + i) = N (251 + 9 * f + i)
theorem FR_of {h h1 : am_H} {N : Int → Int} (e1 : h1 11 0 = h 11 0) (e2 : h1 12 = h 12) (e3 : h1 13 = h 13) (H : FR h N) : FR h1 N := by
  unfold FR
  rw [e1, e2, e3]; exact H
def MR (h : am_H) (N : Int → Int) : Prop := ∀ f g, 0 ≤ g → g ≤ f → f < N 2 → h 15 (30 * f + g) = -1 ∨ h 15 (30 * f + g) = far N f g
theorem S_costOf {h : am_H} {a b : Int} {P : Int → am_H → Prop} (a0 : 0 ≤ a) (b0 : 0 ≤ b) (H : P (cst a b) h) : ∃ a_ h_, am_cd 1 29 [.inl a, .inl b] h (some (.inl a_)) h_ ∧ P a_ h_ := by
  refine e_Forms_costOf ⟨fun q => ⟨⟨a0, b0⟩, fun k => ?_, fun k => ?_⟩, fun q => ?_⟩
  · unfold cst at H; rw [if_neg q, if_neg k] at H; exact H
  · unfold cst at H; rw [if_neg q, if_pos k] at H; exact H
  · unfold cst at H; rw [if_pos q] at H; exact H
theorem L_measure68 {N : Int → Int} {h0 : am_H} {f g x4 : Int} {P : Int → am_H → Prop} (O : OF N) (f0 : 0 ≤ f) (f1 : f < N 2) (g0 : 0 ≤ g) (g1 : g < N 2) (x40 : 0 ≤ x4) (x41 : x4 < N (250 + 9 * f)) (R0 : FR h0 N) (H : ∀ h, (∀ p, p ≠ 16 → h p = h0 p) → (∀ j, 0 ≤ j → j ≤ N (250 + 9 * g) → h 16 j = fr N f g (x4 + 1) j) → am_x (am_cd 1) 96 (am_qi P) 0 36 [some (.inr (.inr 11)), some (.inl f), some (.inl g), some (.inl (N (250 + 9 * g))), some (.inl (x4 + 1)), none, none, none] [] h) : ∀ x6 x5 h, 0 ≤ x6 → x6 ≤ N (250 + 9 * g) → (∀ p, p ≠ 16 → h p = h0 p) → x5 = fr N f g x4 x6 → (∀ j, 0 ≤ j → j ≤ N (250 + 9 * g) → h 16 j = if j ≤ x6 then fr N f g (x4 + 1) j else fr N f g x4 j) → am_x (am_cd 1) 96 (am_qi P) 0 68 [some (.inr (.inr 11)), some (.inl f), some (.inl g), some (.inl (N (250 + 9 * g))), some (.inl x4), some (.inl x5), some (.inl x6), none] [] h := by
  have of := O.2 f f0 f1
  have og := O.2 g g0 g1
  have oN := O.1
  refine upto (N (250 + 9 * g)) (fun x6 ih x5 h a0 a1 a2 a3 a4 => ?_)
  have R : FR h N := FR_of (by rw [a2 11 (by decide)]) (a2 _ (by decide)) (a2 _ (by decide)) R0
  refine g_Forms_measure_68 ⟨fun hc => ⟨by omega, H h a2 (fun j j0 j1 => ?_)⟩, fun hc => ⟨⟨by omega, by omega, by omega⟩, ⟨by omega, by omega, by omega⟩, ?_⟩⟩
  · rw [a4 j j0 j1, if_pos (by omega)]
  · have sf := (R.2 f f0 f1).2 x4 x40 x41
    have sg := (R.2 g g0 g1).2 x6 a0 hc
    have bf := of.2 x4 x40 x41
    have bg := og.2 x6 a0 hc
    rw [sf, sg]
    have e1 : h 16 (1 + x6) = fr N f g x4 (x6 + 1) := by rw [show 1 + x6 = x6 + 1 by omega, a4 (x6 + 1) (by omega) (by omega), if_neg (by omega)]
    have e2 : h 16 x6 = fr N f g (x4 + 1) x6 := by rw [a4 x6 a0 a1, if_pos (by omega)]
    have b1 := fr_bd (N := N) (f := f) (g := g) x40 (show 0 ≤ x6 + 1 by omega)
    have b2 := fr_bd (N := N) (f := f) (g := g) (show 0 ≤ x4 + 1 by omega) a0
    have b3 := fr_bd (N := N) (f := f) (g := g) x40 a0
    have b4 := cst_bd (N (251 + 9 * f + x4)) (N (251 + 9 * g + x6))
    refine am_lifti (Nat.le_of_ble_eq_true rfl) (S_costOf bf.1 bg.1 ⟨⟨by omega, by omega, by omega, by omega⟩, by omega, ih hc _ _ (by omega) (by omega) (fun p hp => (up_ne hp).trans (a2 p hp)) e1 (fun j j0 j1 => ?_)⟩)
    rw [up_same]
    by_cases q : j = 1 + x6
    · subst q
      rw [if_pos rfl, if_pos (by omega), e1, e2, a3, show 1 + x6 = x6 + 1 by omega, fr_s x40 a0]
    · rw [if_neg q, a4 j j0 j1]
      by_cases k : j ≤ x6
      · rw [if_pos k, if_pos (by omega)]
      · rw [if_neg k, if_neg (by omega)]
theorem L_measure36 {N : Int → Int} {h0 : am_H} {f g : Int} {P : Int → am_H → Prop} (O : OF N) (f0 : 0 ≤ f) (f1 : f < N 2) (g0 : 0 ≤ g) (g1 : g < N 2) (R0 : FR h0 N) (H : ∀ h, (∀ p, p ≠ 16 → h p = h0 p) → P (far N f g) h) : ∀ x4 h, 0 ≤ x4 → x4 ≤ N (250 + 9 * f) → (∀ p, p ≠ 16 → h p = h0 p) → (∀ j, 0 ≤ j → j ≤ N (250 + 9 * g) → h 16 j = fr N f g x4 j) → am_x (am_cd 1) 96 (am_qi P) 0 36 [some (.inr (.inr 11)), some (.inl f), some (.inl g), some (.inl (N (250 + 9 * g))), some (.inl x4), none, none, none] [] h := by
  have of := O.2 f f0 f1
  have og := O.2 g g0 g1
  have oN := O.1
  refine upto (N (250 + 9 * f)) (fun x4 ih h a0 a1 a2 a3 => ?_)
  have R : FR h N := FR_of (by rw [a2 11 (by decide)]) (a2 _ (by decide)) (a2 _ (by decide)) R0
  have e := (R.2 f f0 f1).1
  have z0 : h 16 0 = 2 * x4 := by rw [a3 0 (by omega) (by omega), fr_z a0]
  refine g_Forms_measure_36 ⟨by omega, fun hc => ⟨by omega, ?_⟩, fun hc => ⟨by omega, ?_⟩⟩
  · rw [a3 _ (by omega) (by omega), show x4 = N (250 + 9 * f) by omega]; exact H h a2
  · refine L_measure68 O f0 f1 g0 g1 a0 (by omega) R0 (fun h b2 b3 => ih (by omega) _ (by omega) (by omega) b2 b3) 0 _ _ (by omega) (by omega) (fun p hp => (up_ne hp).trans (a2 p hp)) ?_ (fun j j0 j1 => ?_)
    · rw [z0, fr_z a0]
    · rw [up_same]
      by_cases q : j = 0
      · subst q
        rw [if_pos rfl, if_pos (by omega), fr_z (by omega)]; omega
      · rw [if_neg q, if_neg (by omega), a3 j j0 j1]
theorem L_measure10 {N : Int → Int} {h0 : am_H} {f g : Int} {P : Int → am_H → Prop} (O : OF N) (f0 : 0 ≤ f) (f1 : f < N 2) (g0 : 0 ≤ g) (g1 : g < N 2) (R0 : FR h0 N) (H : ∀ h, (∀ p, p ≠ 16 → h p = h0 p) → P (far N f g) h) : ∀ x4 h, 0 ≤ x4 → x4 ≤ N (250 + 9 * g) + 1 → (∀ p, p ≠ 16 → h p = h0 p) → (∀ j, 0 ≤ j → j < x4 → h 16 j = 2 * j) → am_x (am_cd 1) 96 (am_qi P) 0 10 [some (.inr (.inr 11)), some (.inl f), some (.inl g), some (.inl (N (250 + 9 * g))), some (.inl x4), none, none, none] [] h := by
  have of := O.2 f f0 f1
  have og := O.2 g g0 g1
  refine upto (N (250 + 9 * g) + 1) (fun x4 ih h a0 a1 a2 a3 => ?_)
  refine g_Forms_measure_10 ⟨fun hc => ?_, fun hc => ⟨⟨by omega, by omega, by omega⟩, ih (by omega) _ (by omega) (by omega) (fun p hp => (up_ne hp).trans (a2 p hp)) (fun j j0 j1 => ?_)⟩⟩
  · exact L_measure36 O f0 f1 g0 g1 R0 H 0 h (by omega) (by omega) a2 (fun j j0 j1 => by rw [a3 j j0 (by omega), fr_0 j0])
  · rw [up_same]
    by_cases q : j = x4
    · subst q; rw [if_pos rfl]
    · rw [if_neg q, a3 j j0 (by omega)]
theorem S_measure {N : Int → Int} {h : am_H} {f g : Int} {P : Int → am_H → Prop} (O : OF N) (f0 : 0 ≤ f) (f1 : f < N 2) (g0 : 0 ≤ g) (g1 : g < N 2) (R : FR h N) (H : ∀ h1, (∀ p, p ≠ 16 → h1 p = h p) → P (far N f g) h1) : ∃ a_ h_, am_cd 2 96 [.inr (.inr 11), .inl f, .inl g] h (some (.inl a_)) h_ ∧ P a_ h_ := by
  have oN := O.1
  have e := (R.2 g g0 g1).1
  have og := O.2 g g0 g1
  refine e_Forms_measure ⟨by omega, ?_⟩
  rw [e]
  exact L_measure10 O f0 f1 g0 g1 R H 0 h (by omega) (by omega) (fun _ _ => rfl) (fun j _ _ => by omega)
theorem S_apart {N : Int → Int} {h : am_H} {f g : Int} {P : Int → am_H → Prop} (O : OF N) (f0 : 0 ≤ f) (f1 : f < N 2) (g0 : 0 ≤ g) (g1 : g < N 2) (R : FR h N) (M : MR h N) (H : ∀ h1, (∀ p, p ≠ 15 → p ≠ 16 → h1 p = h p) → MR h1 N → P (far N f g) h1) : ∃ a_ h_, am_cd 3 144 [.inr (.inr 11), .inl f, .inl g] h (some (.inl a_)) h_ ∧ P a_ h_ := by
  have oN := O.1
  have e : far N (max f g) (min f g) = far N f g := by
    rcases Int.le_total f g with q | q
    · rw [show max f g = g by omega, show min f g = f by omega, far_sym]
    · rw [show max f g = f by omega, show min f g = g by omega]
  refine e_Forms_apart ⟨by omega, ⟨by omega, by omega⟩, fun hc => ?_, fun hc => ?_⟩
  · rcases M (max f g) (min f g) (by omega) (by omega) (by omega) with q | q
    · exact absurd q hc
    · rw [q, e]; exact H h (fun _ _ _ => rfl) M
  · refine am_lifti (Nat.le_of_ble_eq_true rfl) (S_measure O f0 f1 g0 g1 R (fun h1 a2 => H _ (fun p p1 p2 => (up_ne p1).trans (a2 p p2)) (fun a b b0 b1 b2 => ?_)))
    rw [up_same]
    by_cases q : 30 * a + b = 30 * max f g + min f g
    · rw [if_pos q]
      have e1 : a = max f g := by omega
      have e2 : b = min f g := by omega
      rw [e1, e2, e]; exact .inr rfl
    · rw [if_neg q, a2 15 (by decide)]; exact M a b b0 b1 b2
/-! the reference -/
def fJ (N : Int → Int) (f g : Int) (c : Int → Int) (i j : Int) : Prop := ∀ a b, 0 ≤ a → 0 ≤ b → b ≤ N (250 + 9 * g) → (a < i ∨ (a = i ∧ b < j)) → c (9 * a + b) = fr N f g a b
theorem L_Mfar207 {N : Int → Int} {h0 h : am_H} {f g x3 x4 x5 : Int} {P : Int → am_H → Prop} (O : OF N) (f0 : 0 ≤ f) (f1 : f < N 2) (g0 : 0 ≤ g) (g1 : g < N 2) (x30 : 0 ≤ x3) (x31 : x3 ≤ N (250 + 9 * f)) (x40 : 0 ≤ x4) (x41 : x4 ≤ N (250 + 9 * g)) (a2 : ∀ p, p ≠ 60 → h p = h0 p) (J : fJ N f g (h 60) x3 x4) (e : x5 = fr N f g x3 x4) (H : ∀ h, (∀ p, p ≠ 60 → h p = h0 p) → fJ N f g (h 60) x3 (x4 + 1) → am_x (am_cd 1) 124 (am_qi P) 0 14 [some (.inr (.inr 56)), some (.inl f), some (.inl g), some (.inl x3), some (.inl (x4 + 1)), none, none, none] [] h) : am_x (am_cd 1) 124 (am_qi P) 0 207 [some (.inr (.inr 56)), some (.inl f), some (.inl g), some (.inl x3), some (.inl x4), some (.inl x5), none, none] [] h := by
  have of := O.2 f f0 f1
  have og := O.2 g g0 g1
  refine g_Mo_farOf_207 ⟨⟨by omega, by omega, by omega, by omega⟩, H _ (fun p hp => (up_ne hp).trans (a2 p hp)) (fun a b a0 b0 b1 q => ?_)⟩
  rw [up_same]
  by_cases k : 9 * a + b = 9 * x3 + x4
  · rw [if_pos k, e, show a = x3 by omega, show b = x4 by omega]
  · rw [if_neg k]; exact J a b a0 b0 b1 (by omega)
theorem L_Mfar14 {N : Int → Int} {h0 : am_H} {f g x3 : Int} {P : Int → am_H → Prop} (O : OF N) (eN : h0 57 = N) (f0 : 0 ≤ f) (f1 : f < N 2) (g0 : 0 ≤ g) (g1 : g < N 2) (x30 : 0 ≤ x3) (x31 : x3 ≤ N (250 + 9 * f)) (H : ∀ h, (∀ p, p ≠ 60 → h p = h0 p) → fJ N f g (h 60) (x3 + 1) 0 → am_x (am_cd 1) 124 (am_qi P) 0 2 [some (.inr (.inr 56)), some (.inl f), some (.inl g), some (.inl (x3 + 1)), none, none, none, none] [] h) : ∀ x4 h, 0 ≤ x4 → x4 ≤ N (250 + 9 * g) + 1 → (∀ p, p ≠ 60 → h p = h0 p) → fJ N f g (h 60) x3 x4 → am_x (am_cd 1) 124 (am_qi P) 0 14 [some (.inr (.inr 56)), some (.inl f), some (.inl g), some (.inl x3), some (.inl x4), none, none, none] [] h := by
  have of := O.2 f f0 f1
  have og := O.2 g g0 g1
  have oN := O.1
  refine upto (N (250 + 9 * g) + 1) (fun x4 ih h a0 a1 a2 J => ?_)
  have e57 : h 57 = N := (a2 57 (by decide)).trans eN
  refine g_Mo_farOf_14 ?_
  rw [e57]
  refine ⟨⟨by omega, by omega, by omega⟩, fun hc => ⟨by omega, H h a2 (fun a b a0 b0 b1 q => J a b a0 b0 b1 (by omega))⟩, fun hc => ?_⟩
  have K : ∀ x5, x5 = fr N f g x3 x4 → am_x (am_cd 1) 124 (am_qi P) 0 207 [some (.inr (.inr 56)), some (.inl f), some (.inl g), some (.inl x3), some (.inl x4), some (.inl x5), none, none] [] h := fun x5 e => L_Mfar207 O f0 f1 g0 g1 x30 x31 a0 hc a2 J e (fun h b2 b3 => ih (by omega) _ (by omega) (by omega) b2 b3)
  refine ⟨fun hd => ⟨by omega, ?_⟩, fun hd => ⟨by omega, ?_⟩⟩
  · by_cases z : x4 = 0
    · refine g_Mo_farOf_40 ⟨fun q => by omega, fun q => ⟨fun k => K _ ?_, fun k => by omega⟩⟩
      rw [z, fr_z x30]
    · refine g_Mo_farOf_40 ⟨fun q => by omega, fun q => ⟨fun k => by omega, fun k => ?_⟩⟩
      rw [e57]
      have A := J (x3 - 1) (x4 - 1) (by omega) (by omega) (by omega) (.inl (by omega))
      have B := J (x3 - 1) x4 (by omega) (by omega) (by omega) (.inl (by omega))
      have C := J x3 (x4 - 1) (by omega) (by omega) (by omega) (.inr ⟨rfl, by omega⟩)
      have bA := fr_bd (N := N) (f := f) (g := g) (show 0 ≤ x3 - 1 by omega) (show 0 ≤ x4 - 1 by omega)
      have bB := fr_bd (N := N) (f := f) (g := g) (show 0 ≤ x3 - 1 by omega) a0
      have bC := fr_bd (N := N) (f := f) (g := g) x30 (show 0 ≤ x4 - 1 by omega)
      rw [show 9 * (x3 - 1) + (x4 - 1) = (-10) + 9 * x3 + x4 by omega] at A
      rw [show 9 * (x3 - 1) + x4 = (-9) + 9 * x3 + x4 by omega] at B
      rw [show 9 * x3 + (x4 - 1) = (-1) + 9 * x3 + x4 by omega] at C
      have F := fr_s (N := N) (f := f) (g := g) (show 0 ≤ x3 - 1 by omega) (show 0 ≤ x4 - 1 by omega)
      rw [show x3 - 1 + 1 = x3 by omega, show x4 - 1 + 1 = x4 by omega, show 251 + 9 * f + (x3 - 1) = 250 + 9 * f + x3 by omega, show 251 + 9 * g + (x4 - 1) = 250 + 9 * g + x4 by omega] at F
      have sf := of.2 (x3 - 1) (by omega) (by omega)
      have sg := og.2 (x4 - 1) (by omega) (by omega)
      rw [show 251 + 9 * f + (x3 - 1) = 250 + 9 * f + x3 by omega] at sf
      rw [show 251 + 9 * g + (x4 - 1) = 250 + 9 * g + x4 by omega] at sg
      have K2 : ∀ x5, x5 = fr N f g (x3 - 1) (x4 - 1) + cst (N (250 + 9 * f + x3)) (N (250 + 9 * g + x4)) → am_x (am_cd 1) 124 (am_qi P) 0 117 [some (.inr (.inr 56)), some (.inl f), some (.inl g), some (.inl x3), some (.inl x4), some (.inl x5), none, none] [] h := by
        intro x5 e
        have cb := cst_bd (N (250 + 9 * f + x3)) (N (250 + 9 * g + x4))
        have K3 : ∀ y, y = min x5 (h 60 ((-9) + 9 * x3 + x4) + 2) → am_x (am_cd 1) 124 (am_qi P) 0 163 [some (.inr (.inr 56)), some (.inl f), some (.inl g), some (.inl x3), some (.inl x4), some (.inl y), none, none] [] h := by
          intro y ey
          refine g_Mo_farOf_163 ⟨⟨by omega, by omega, by omega, by omega, by omega⟩, fun _ => K _ (by omega), fun _ => K _ (by omega)⟩
        exact g_Mo_farOf_117 ⟨⟨by omega, by omega, by omega, by omega, by omega⟩, fun _ => K3 _ (by omega), fun _ => K3 _ (by omega)⟩
      refine ⟨by omega, ⟨by omega, by omega, by omega, by omega, by omega⟩, by omega, ⟨by omega, by omega, by omega, by omega, by omega⟩, ⟨by omega, by omega, by omega, by omega, by omega⟩, fun c1 => ⟨⟨by omega, by omega⟩, fun c2 => ⟨by omega, K2 _ ?_⟩, fun c2 => ⟨by omega, K2 _ ?_⟩⟩, fun c1 => ⟨by omega, K2 _ ?_⟩⟩
      · unfold cst; rw [if_neg c1, if_neg c2, A]
      · unfold cst; rw [if_neg c1, if_pos c2, A]
      · unfold cst; rw [if_pos c1, A]
  · refine g_Mo_farOf_40 ⟨fun q => K _ ?_, fun q => by omega⟩
    rw [hd, fr_0 a0]
theorem L_Mfar2 {N : Int → Int} {h0 : am_H} {f g : Int} {P : Int → am_H → Prop} (O : OF N) (eN : h0 57 = N) (f0 : 0 ≤ f) (f1 : f < N 2) (g0 : 0 ≤ g) (g1 : g < N 2) (H : ∀ h1, (∀ p, p ≠ 60 → h1 p = h0 p) → P (far N f g) h1) : ∀ x3 h, 0 ≤ x3 → x3 ≤ N (250 + 9 * f) + 1 → (∀ p, p ≠ 60 → h p = h0 p) → fJ N f g (h 60) x3 0 → am_x (am_cd 1) 124 (am_qi P) 0 2 [some (.inr (.inr 56)), some (.inl f), some (.inl g), some (.inl x3), none, none, none, none] [] h := by
  have of := O.2 f f0 f1
  have og := O.2 g g0 g1
  have oN := O.1
  refine upto (N (250 + 9 * f) + 1) (fun x3 ih h a0 a1 a2 J => ?_)
  have e57 : h 57 = N := (a2 57 (by decide)).trans eN
  refine g_Mo_farOf_2 ?_
  rw [e57]
  refine ⟨⟨by omega, by omega, by omega⟩, fun hc => ⟨by omega, ⟨by omega, by omega, by omega⟩, ⟨by omega, by omega⟩, ?_⟩, fun hc => ?_⟩
  · rw [J (N (250 + 9 * f)) (N (250 + 9 * g)) (by omega) (by omega) (by omega) (.inl (by omega))]; exact H h a2
  · exact L_Mfar14 O eN f0 f1 g0 g1 a0 hc (fun h b2 b3 => ih (by omega) _ (by omega) (by omega) b2 b3) 0 h (by omega) (by omega) a2 J
theorem S_MfarOf {N : Int → Int} {h : am_H} {f g : Int} {P : Int → am_H → Prop} (O : OF N) (eN : h 57 = N) (f0 : 0 ≤ f) (f1 : f < N 2) (g0 : 0 ≤ g) (g1 : g < N 2) (H : ∀ h1, (∀ p, p ≠ 60 → h1 p = h p) → P (far N f g) h1) : ∃ a_ h_, am_cd 2 124 [.inr (.inr 56), .inl f, .inl g] h (some (.inl a_)) h_ ∧ P a_ h_ := by
  have of := O.2 f f0 f1
  exact e_Mo_farOf (L_Mfar2 O eN f0 f1 g0 g1 H 0 h (by omega) (by omega) (fun _ _ => rfl) (fun a b a0 b0 b1 q => by omega))
