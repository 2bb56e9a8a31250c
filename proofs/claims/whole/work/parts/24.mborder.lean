/-! the reference's borders -/
theorem L_MliesBy {N : Int → Int} {h : am_H} {th one two d t s : Int} {S : Int → Int} {P : Int → am_H → Prop} (O : OL N) (eN : h 57 = N) (t0 : 0 ≤ th) (t1 : th < 6) (hS : ∀ v, 0 ≤ v → v < N 0 → h 62 (6 * v + th) = S v) (d0 : 0 ≤ d) (d1 : d < 8) (hs : s = 0 ∨ s = 1) (H : P (lie N S one two d t s) h) : ∀ x8 x7, 0 ≤ x8 → x8 ≤ N 0 → x7 = su (fun v => if S v = (if (if ht N d v < t then (0 : Int) else 1) = s then two else one) then N (12 + 3 * v) else 0) x8 → am_x (am_cd 1) 133 (am_qi P) 0 6 [some (.inr (.inr 56)), some (.inl th), some (.inl one), some (.inl two), some (.inl d), some (.inl t), some (.inl s), some (.inl x7), some (.inl x8), none, none] [] h := by
  have hN := O.1
  refine upto (N 0) (fun x8 ih x7 a0 a1 a2 => ?_)
  have b := su_bd (f := fun v => if S v = (if (if ht N d v < t then (0 : Int) else 1) = s then two else one) then N (12 + 3 * v) else 0) (B := 999) (n := x8) (by omega) a0 (fun v v0 v1 => by have := (O.2.1 v v0 (by omega)).2.2; split <;> omega)
  refine g_Mo_liesBy_6 ?_
  rw [eN]
  refine ⟨fun hc => ?_, fun hc => ?_⟩
  · rw [a2, show x8 = N 0 by omega]; exact H
  · have o := O.2.1 x8 a0 hc
    rw [hS x8 a0 hc]
    refine ⟨⟨by omega, by omega, by omega, by omega, by omega, by omega, by omega, by omega⟩, am_lifti (Nat.le_of_ble_eq_true rfl) (S_MalongOf o.1.1 o.1.2 o.2.1.1 o.2.1.2 d d0 d1 ?_)⟩
    have eh : al d (N (10 + 3 * x8)) (N (11 + 3 * x8)) = ht N d x8 := rfl
    rw [eh, eN]
    have no : ∀ w, w = (if (if ht N d x8 < t then (0 : Int) else 1) = s then two else one) → S x8 ≠ w → (am_ok (x7 + 0) ∧ am_ok (x8 + 1)) ∧ am_x (am_cd 1) 133 (am_qi P) 0 6 [some (.inr (.inr 56)), some (.inl th), some (.inl one), some (.inl two), some (.inl d), some (.inl t), some (.inl s), some (.inl (x7 + 0)), some (.inl (x8 + 1)), none, none] [] h := by
      intro w e q
      refine ⟨⟨by omega, by omega⟩, ih hc _ (by omega) (by omega) ?_⟩
      rw [su_1 a0, if_neg (by rw [← e]; exact q)]; omega
    have ye : ∀ w, w = (if (if ht N d x8 < t then (0 : Int) else 1) = s then two else one) → S x8 = w → (am_ok (10 + 3 * x8 + 2) ∧ (0 ≤ 10 + 3 * x8 + 2 ∧ 10 + 3 * x8 + 2 < 820)) ∧ ((am_ok (x7 + N (12 + 3 * x8)) ∧ am_ok (x8 + 1)) ∧ am_x (am_cd 1) 133 (am_qi P) 0 6 [some (.inr (.inr 56)), some (.inl th), some (.inl one), some (.inl two), some (.inl d), some (.inl t), some (.inl s), some (.inl (x7 + N (12 + 3 * x8))), some (.inl (x8 + 1)), none, none] [] h) := by
      intro w e q
      refine ⟨⟨by omega, by omega⟩, ⟨by omega, by omega⟩, ih hc _ (by omega) (by omega) ?_⟩
      rw [su_1 a0, if_pos (by rw [← e]; exact q)]; omega
    refine ⟨fun c => ⟨fun c2 => ?_, fun c2 => ?_⟩, fun c => ⟨fun c2 => ?_, fun c2 => ?_⟩⟩
    · have e : one = (if (if ht N d x8 < t then (0 : Int) else 1) = s then two else one) := by rw [if_neg (show ¬ ht N d x8 < t by omega), if_neg c2]
      exact ⟨no one e, ye one e⟩
    · have e : two = (if (if ht N d x8 < t then (0 : Int) else 1) = s then two else one) := by rw [if_neg (show ¬ ht N d x8 < t by omega), if_pos c2]
      exact ⟨no two e, ye two e⟩
    · have e : one = (if (if ht N d x8 < t then (0 : Int) else 1) = s then two else one) := by rw [if_pos c, if_neg c2]
      exact ⟨no one e, ye one e⟩
    · have e : two = (if (if ht N d x8 < t then (0 : Int) else 1) = s then two else one) := by rw [if_pos c, if_pos c2]
      exact ⟨no two e, ye two e⟩
theorem S_MliesBy {N : Int → Int} {h : am_H} {th one two d t s : Int} {S : Int → Int} {P : Int → am_H → Prop} (O : OL N) (eN : h 57 = N) (t0 : 0 ≤ th) (t1 : th < 6) (hS : ∀ v, 0 ≤ v → v < N 0 → h 62 (6 * v + th) = S v) (d0 : 0 ≤ d) (d1 : d < 8) (hs : s = 0 ∨ s = 1) (H : P (lie N S one two d t s) h) : ∃ a_ h_, am_cd 2 133 [.inr (.inr 56), .inl th, .inl one, .inl two, .inl d, .inl t, .inl s] h (some (.inl a_)) h_ ∧ P a_ h_ :=
  e_Mo_liesBy (L_MliesBy O eN t0 t1 hS d0 d1 hs H 0 0 (by omega) O.1.1 (su_0 (by omega)).symm)
theorem al_new {h : am_H} {p : Nat} (h0 : 80 ≤ p) (h1 : p < 1000) (h2 : p < am_n h) : am_al h p = some 4 := by
  unfold am_al
  rw [if_neg (by omega), if_pos h1, if_pos h2]
/-- what has been tried ahead of (D, T, Q) -/
def ZB (D T Q d t s : Int) : Prop := ZM d t s ∧ lx d t s D T Q
def mB (g : Int → Int → Int → Int) (D T Q : Int) (p : Nat) (h0 h : am_H) : Prop := (∀ q, q ≠ p → h q = h0 q) ∧ ((h p 0 = -1 ∧ ∀ d t s, ¬ ZB D T Q d t s) ∨ FM g (ZB D T Q) (h p 0) (h p 1) (h p 2) (h p 3))
theorem mB_ex {g : Int → Int → Int → Int} {D T Q D' T' Q' : Int} {p : Nat} {h0 h : am_H} (e : ∀ d t s, ZB D T Q d t s ↔ ZB D' T' Q' d t s) (F : mB g D T Q p h0 h) : mB g D' T' Q' p h0 h := by
  have : ZB D T Q = ZB D' T' Q' := by funext d t s; exact propext (e d t s)
  unfold mB at F ⊢
  rw [← this]; exact F
theorem L_Mborder98 {N : Int → Int} {h0 : am_H} {th one two what D T : Int} {S : Int → Int} {p : Nat} {P : Int → am_H → Prop} (O : OL N) (eN : h0 57 = N) (t0 : 0 ≤ th) (t1 : th < 6) (hS : ∀ v, 0 ≤ v → v < N 0 → h0 62 (6 * v + th) = S v) (p0 : 80 ≤ p) (p1 : p < 1000) (p2 : p < am_n h0) (D0 : 0 ≤ D) (D1 : D < 8) (T0 : -200 ≤ T) (T1 : T ≤ 300) (H : ∀ h, mB (lie N S one two) D (T + 1) 0 p h0 h → am_x (am_cd 3) 196 (am_qi P) 0 87 [some (.inr (.inr 56)), some (.inl th), some (.inl one), some (.inl two), some (.inl what), some (.inr (.inr p)), some (.inl D), some (.inl (T + 1)), none, none] [] h) : ∀ x8 h, 0 ≤ x8 → x8 ≤ 2 → mB (lie N S one two) D T x8 p h0 h → am_x (am_cd 3) 196 (am_qi P) 0 98 [some (.inr (.inr 56)), some (.inl th), some (.inl one), some (.inl two), some (.inl what), some (.inr (.inr p)), some (.inl D), some (.inl T), some (.inl x8), none] [] h := by
  refine upto 2 (fun x8 ih h a0 a1 J => ?_)
  refine g_Mo_border_98 ⟨fun hc => ⟨by omega, H h (mB_ex (fun d t s => ?_) J)⟩, fun hc => ?_⟩
  · unfold ZB ZM
    constructor <;> (rintro ⟨z1, z2⟩; exact ⟨z1, by omega⟩)
  · have e57 : h 57 = N := (J.1 57 (by omega)).trans eN
    have hS' : ∀ v, 0 ≤ v → v < N 0 → h 62 (6 * v + th) = S v := fun v v0 v1 => by rw [J.1 62 (by omega)]; exact hS v v0 v1
    have lb := lie_bd (S := S) (one := one) (two := two) (d := D) (t := T) (s := x8) O
    have aln : ∀ h' : am_H, (∀ q, q ≠ p → h' q = h0 q) → am_al h' p = some 4 := fun h' k => al_new p0 p1 (by unfold am_n at p2 ⊢; rw [k 1000 (by omega)]; exact p2)
    have u1 : ∀ q, q ≠ p → am_up h p 0 (lie N S one two D T x8) q = h0 q := fun q hq => (up_ne hq).trans (J.1 q hq)
    have u2 : ∀ q, q ≠ p → am_up (am_up h p 0 (lie N S one two D T x8)) p 1 D q = h0 q := fun q hq => (up_ne hq).trans (u1 q hq)
    have u3 : ∀ q, q ≠ p → am_up (am_up (am_up h p 0 (lie N S one two D T x8)) p 1 D) p 2 T q = h0 q := fun q hq => (up_ne hq).trans (u2 q hq)
    have u4 : ∀ q, q ≠ p → am_up (am_up (am_up (am_up h p 0 (lie N S one two D T x8)) p 1 D) p 2 T) p 3 x8 q = h0 q := fun q hq => (up_ne hq).trans (u3 q hq)
    have new : (∀ d t s, ZB D T x8 d t s → lie N S one two D T x8 < lie N S one two d t s) → am_x (am_cd 3) 196 (am_qi P) 0 98 [some (.inr (.inr 56)), some (.inl th), some (.inl one), some (.inl two), some (.inl what), some (.inr (.inr p)), some (.inl D), some (.inl T), some (.inl (x8 + 1)), none] [] (am_up (am_up (am_up (am_up h p 0 (lie N S one two D T x8)) p 1 D) p 2 T) p 3 x8) := by
      intro k
      refine ih hc _ (by omega) (by omega) ⟨u4, .inr ?_⟩
      have w0 : am_up (am_up (am_up (am_up h p 0 (lie N S one two D T x8)) p 1 D) p 2 T) p 3 x8 p 0 = lie N S one two D T x8 := by simp [up_same]
      have w1 : am_up (am_up (am_up (am_up h p 0 (lie N S one two D T x8)) p 1 D) p 2 T) p 3 x8 p 1 = D := by simp [up_same]
      have w2 : am_up (am_up (am_up (am_up h p 0 (lie N S one two D T x8)) p 1 D) p 2 T) p 3 x8 p 2 = T := by simp [up_same]
      have w3 : am_up (am_up (am_up (am_up h p 0 (lie N S one two D T x8)) p 1 D) p 2 T) p 3 x8 p 3 = x8 := by simp [up_same]
      rw [w0, w1, w2, w3]
      refine ⟨⟨⟨D0, D1, by omega, T0, T1⟩, by omega⟩, rfl, fun d t s z => ?_⟩
      by_cases q : ZB D T x8 d t s
      · have := k d t s q; exact ⟨by omega, fun _ => this⟩
      · have : d = D ∧ t = T ∧ s = x8 := by
          obtain ⟨z1, z2⟩ := z
          have : ¬ lx d t s D T x8 := fun y => q ⟨z1, y⟩
          omega
        obtain ⟨rfl, rfl, rfl⟩ := this
        exact ⟨Int.le_refl _, fun y => by omega⟩
    refine am_lifti (Nat.le_of_ble_eq_true rfl) (S_MliesBy O e57 t0 t1 hS' D0 D1 (by omega) ⟨⟨aln h J.1, p1⟩, fun c => ⟨⟨aln _ u1, aln _ u2, aln _ u3, by omega⟩, new (fun d t s z => ?_)⟩, fun c => ⟨fun c2 => ⟨⟨aln _ u1, aln _ u2, aln _ u3, by omega⟩, new (fun d t s z => ?_)⟩, fun c2 => ⟨by omega, ih hc _ (by omega) (by omega) ⟨J.1, .inr ?_⟩⟩⟩⟩)
    · rcases J.2 with ⟨-, f⟩ | f
      · exact absurd z (f d t s)
      · have := lie_bd (S := S) (one := one) (two := two) (d := h p 1) (t := h p 2) (s := h p 3) O
        have := f.2.1
        omega
    · rcases J.2 with ⟨f, -⟩ | f
      · omega
      · have := (f.2.2 d t s z).1; omega
    · rcases J.2 with ⟨f, -⟩ | f
      · omega
      · obtain ⟨f1, f2, f3⟩ := f
        refine ⟨⟨f1.1, by have := f1.2; omega⟩, f2, fun d t s z => ?_⟩
        by_cases q : ZB D T x8 d t s
        · exact f3 d t s q
        · have : d = D ∧ t = T ∧ s = x8 := by
            obtain ⟨z1, z2⟩ := z
            have : ¬ lx d t s D T x8 := fun y => q ⟨z1, y⟩
            omega
          obtain ⟨rfl, rfl, rfl⟩ := this
          refine ⟨c2, fun y => ?_⟩
          have := f1.2
          omega
theorem L_Mborder87 {N : Int → Int} {h0 : am_H} {th one two what D : Int} {S : Int → Int} {p : Nat} {P : Int → am_H → Prop} (O : OL N) (eN : h0 57 = N) (t0 : 0 ≤ th) (t1 : th < 6) (hS : ∀ v, 0 ≤ v → v < N 0 → h0 62 (6 * v + th) = S v) (p0 : 80 ≤ p) (p1 : p < 1000) (p2 : p < am_n h0) (D0 : 0 ≤ D) (D1 : D < 8) (H : ∀ h, mB (lie N S one two) (D + 1) (-200) 0 p h0 h → am_x (am_cd 3) 196 (am_qi P) 0 75 [some (.inr (.inr 56)), some (.inl th), some (.inl one), some (.inl two), some (.inl what), some (.inr (.inr p)), some (.inl (D + 1)), none, none, none] [] h) : ∀ x7 h, -200 ≤ x7 → x7 ≤ 301 → mB (lie N S one two) D x7 0 p h0 h → am_x (am_cd 3) 196 (am_qi P) 0 87 [some (.inr (.inr 56)), some (.inl th), some (.inl one), some (.inl two), some (.inl what), some (.inr (.inr p)), some (.inl D), some (.inl x7), none, none] [] h := by
  refine upto 301 (fun x7 ih h a0 a1 J => ?_)
  refine g_Mo_border_87 ⟨fun hc => ⟨by omega, H h (mB_ex (fun d t s => ?_) J)⟩, fun hc => L_Mborder98 O eN t0 t1 hS p0 p1 p2 D0 D1 a0 hc (fun h J => ih (by omega) h (by omega) (by omega) J) 0 h (by omega) (by omega) J⟩
  unfold ZB ZM
  constructor <;> (rintro ⟨z1, z2⟩; exact ⟨z1, by omega⟩)
theorem L_Mborder75 {N : Int → Int} {h0 : am_H} {th one two what : Int} {S : Int → Int} {p : Nat} {P : Int → am_H → Prop} (O : OL N) (eN : h0 57 = N) (t0 : 0 ≤ th) (t1 : th < 6) (hS : ∀ v, 0 ≤ v → v < N 0 → h0 62 (6 * v + th) = S v) (p0 : 80 ≤ p) (p1 : p < 1000) (p2 : p < am_n h0) (w0 : 0 ≤ what) (w1 : what < 4) (H : ∀ h, (∀ q, q ≠ p → h q = h0 q) → FM (lie N S one two) ZM (h p 0) (h p 1) (h p 2) (h p 3) → P (h p what) h) : ∀ x6 h, 0 ≤ x6 → x6 ≤ 8 → mB (lie N S one two) x6 (-200) 0 p h0 h → am_x (am_cd 3) 196 (am_qi P) 0 75 [some (.inr (.inr 56)), some (.inl th), some (.inl one), some (.inl two), some (.inl what), some (.inr (.inr p)), some (.inl x6), none, none, none] [] h := by
  refine upto 8 (fun x6 ih h a0 a1 J => ?_)
  refine g_Mo_border_75 ⟨fun hc => ⟨⟨al_new p0 p1 (by unfold am_n at p2 ⊢; rw [J.1 1000 (by omega)]; exact p2), p1, by omega⟩, H h J.1 ?_⟩, fun hc => L_Mborder87 O eN t0 t1 hS p0 p1 p2 a0 hc (fun h J => ih hc h (by omega) (by omega) J) (-200) h (by omega) (by omega) J⟩
  have e : x6 = 8 := by omega
  subst e
  have ez : ZB 8 (-200) 0 = ZM := by
    funext d t s
    apply propext
    unfold ZB ZM
    exact ⟨fun z => z.1, fun z => ⟨z, by omega⟩⟩
  rcases J.2 with ⟨-, f⟩ | f
  · exfalso
    refine f 0 0 0 ?_
    rw [ez]
    exact ⟨by omega, by omega, .inl rfl, by omega, by omega⟩
  · rw [ez] at f; exact f
