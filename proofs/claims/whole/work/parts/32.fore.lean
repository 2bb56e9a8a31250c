/-! what is foretold -/
noncomputable def pul (N : Int → Int) (D : Int → Int → Int) (S : Int → Int) (a f : Int) : Nat → Int
  | 0 => -1
  | j + 1 => if (j : Int) ≠ a ∧ D a j < 1000000 ∧ S j = f then max (pul N D S a f j) 0 + N (12 + 3 * j) / (1 + D a j) else pul N D S a f j
theorem pul_s {N : Int → Int} {D : Int → Int → Int} {S : Int → Int} {a f x : Int} (h : 0 ≤ x) : pul N D S a f (x + 1).toNat = if x ≠ a ∧ D a x < 1000000 ∧ S x = f then max (pul N D S a f x.toNat) 0 + N (12 + 3 * x) / (1 + D a x) else pul N D S a f x.toNat := by
  have : ∀ n : Nat, pul N D S a f (n + 1) = if (n : Int) ≠ a ∧ D a n < 1000000 ∧ S n = f then max (pul N D S a f n) 0 + N (12 + 3 * n) / (1 + D a n) else pul N D S a f n := fun _ => rfl
  have e := this x.toNat
  rw [show ((x.toNat : Nat) : Int) = x by omega] at e
  rw [show (x + 1).toNat = x.toNat + 1 by omega]; exact e
theorem div_bd {a b : Int} (a0 : 0 ≤ a) (b0 : 0 < b) : 0 ≤ a / b ∧ a / b ≤ a := ⟨Int.ediv_nonneg a0 (by omega), Int.ediv_le_self _ a0⟩
theorem pul_bd {N : Int → Int} {D : Int → Int → Int} {S : Int → Int} {a f : Int} (L : OL N) (W : DW N D) (a0 : 0 ≤ a) (a1 : a < N 0) : ∀ j : Nat, (j : Int) ≤ N 0 → -1 ≤ pul N D S a f j ∧ pul N D S a f j ≤ 999 * j
  | 0, _ => by
    show -1 ≤ (-1 : Int) ∧ (-1 : Int) ≤ 999 * ((0 : Nat) : Int)
    omega
  | j + 1, h => by
    have ih := pul_bd (f := f) (S := S) L W a0 a1 j (by omega)
    have e := pul_s (N := N) (D := D) (S := S) (a := a) (f := f) (x := j) (by omega)
    rw [show ((j : Int) + 1).toNat = j + 1 by omega, show ((j : Int)).toNat = j by omega] at e
    rw [e]
    by_cases k : (j : Int) ≠ a ∧ D a j < 1000000 ∧ S j = f
    · rw [if_pos k]
      have fb := (L.2.1 j (by omega) (by omega)).2.2
      have db := D_bd W a0 a1 (show 0 ≤ (j : Int) by omega) (show (j : Int) < N 0 by omega)
      have q := div_bd (a := N (12 + 3 * j)) (b := 1 + D a j) (by omega) (by omega)
      generalize N (12 + 3 * j) / (1 + D a j) = z at *
      omega
    · rw [if_neg k]; omega
theorem pul_no {N : Int → Int} {D : Int → Int → Int} {S : Int → Int} {a f : Int} : ∀ j : Nat, (∀ v : Int, 0 ≤ v → v < j → S v ≠ f) → pul N D S a f j = -1
  | 0, _ => rfl
  | j + 1, h => by
    have e := pul_s (N := N) (D := D) (S := S) (a := a) (f := f) (x := j) (by omega)
    rw [show ((j : Int) + 1).toNat = j + 1 by omega, show ((j : Int)).toNat = j by omega] at e
    rw [e, if_neg (fun k => h j (by omega) (by omega) k.2.2)]
    exact pul_no j (fun v v0 v1 => h v v0 (by omega))
def fbt (g : Int → Int) : Nat → Int × Int
  | 0 => (-1, -1)
  | j + 1 => if (fbt g j).2 < g j then ((j : Int), g j) else fbt g j
theorem fbt_s {g : Int → Int} {x : Int} (h : 0 ≤ x) : fbt g (x + 1).toNat = if (fbt g x.toNat).2 < g x then (x, g x) else fbt g x.toNat := by
  have : ∀ n : Nat, fbt g (n + 1) = if (fbt g n).2 < g n then ((n : Int), g n) else fbt g n := fun _ => rfl
  have e := this x.toNat
  rw [show ((x.toNat : Nat) : Int) = x by omega] at e
  rw [show (x + 1).toNat = x.toNat + 1 by omega]; exact e
theorem fbt_bd {g : Int → Int} : ∀ j : Nat, -1 ≤ (fbt g j).2 ∧ ((fbt g j).1 = -1 ∨ (0 ≤ (fbt g j).1 ∧ (fbt g j).1 < j))
  | 0 => ⟨Int.le_refl _, .inl rfl⟩
  | j + 1 => by
    have ih := fbt_bd (g := g) j
    have e : fbt g (j + 1) = if (fbt g j).2 < g j then ((j : Int), g j) else fbt g j := rfl
    rw [e]
    by_cases k : (fbt g j).2 < g j
    · rw [if_pos k]; exact ⟨show -1 ≤ g j by omega, .inr ⟨show (0 : Int) ≤ (j : Int) by omega, show (j : Int) < ((j + 1 : Nat) : Int) by omega⟩⟩
    · rw [if_neg k]; exact ⟨ih.1, by omega⟩
theorem fbt_ext {g : Int → Int} {a : Int} (a0 : 0 ≤ a) : ∀ k : Nat, (∀ v, a ≤ v → v < a + k → g v = -1) → fbt g (a + k).toNat = fbt g a.toNat
  | 0, _ => by rw [show a + ((0 : Nat) : Int) = a by omega]
  | k + 1, h => by
    have ih := fbt_ext (g := g) a0 k (fun v v0 v1 => h v v0 (by omega))
    have b := (fbt_bd (g := g) (a + k).toNat).1
    rw [show a + ((k + 1 : Nat) : Int) = a + k + 1 by omega, fbt_s (by omega), if_neg, ih]
    rw [h (a + k) (by omega) (by omega)]; omega
/-- the answer of foretold -/
noncomputable def fto (N : Int → Int) (D : Int → Int → Int) (a t : Int) : Int :=
  if 0 ≤ a ∧ a < N 0 ∧ 0 ≤ t ∧ t < 6 then (if (fbt (fun f => pul N D (fun v => sd N (N 4) v t) a f (N 0).toNat) (N 2).toNat).1 < 0 then -100006 else (fbt (fun f => pul N D (fun v => sd N (N 4) v t) a f (N 0).toNat) (N 2).toNat).1) else -100001
theorem S_sumPulls {N : Int → Int} {D : Int → Int → Int} {h : am_H} {a t : Int} {P : am_H → Prop} (L : OL N) (O : OP N) (F : OF N) (C : OA N) (W : DW N D) (LL : LR h N) (PP : PR h N) (AA : AR h N) (e4 : h 0 12 = N 4) (a0 : 0 ≤ a) (a1 : a < N 0) (H : ∀ h1, (∀ p, p ≠ 6 → p ≠ 23 → p ≠ 55 → h1 p = h p) → (∀ f, 0 ≤ f → f < 30 → h1 55 f = pul N D (fun v => sd N (N 4) v t) a f (N 0).toNat) → P h1) : ∃ h_, am_cd 5 216 [.inr (.inr 0), .inl a, .inl t] h none h_ ∧ P h_ := by
  have hN := L.1
  refine e_At_sumPulls (am_liftv (Nat.le_of_ble_eq_true rfl) (S_fill (n0 := 30) (fun h => by with_unfolding_all rfl) (by decide) (by decide) (fun h1 f1 w1 => ?_)))
  have LL1 : LR h1 N := LR_of (f1 1 (by decide)) (f1 2 (by decide)) (f1 3 (by decide)) (f1 4 (by decide)) (f1 5 (by decide)) LL
  refine am_liftv (Nat.le_of_ble_eq_true rfl) (S_walkFrom L LL1 (fun h2 f2 w2 => ?_))
  have e6 : ∀ b, 0 ≤ b → b < N 0 → h2 6 b = D a b := fun b b0 b1 => isW_eq (W a a0 a1) w2 b0 b1
  have key : ∀ x3 h', 0 ≤ x3 → x3 ≤ N 0 → (∀ p, p ≠ 23 → p ≠ 55 → h' p = h2 p) → (∀ f, 0 ≤ f → f < 30 → h' 55 f = pul N D (fun v => sd N (N 4) v t) a f x3.toNat) → am_x (am_cd 4) 216 (am_qv P) 0 20 [some (.inr (.inr 0)), some (.inl a), some (.inl t), some (.inl x3), none] [] h' := by
    refine upto (N 0) (fun x3 ih h' b0 b1 b2 b3 => ?_)
    have fr : ∀ p, p ≠ 6 → p ≠ 23 → p ≠ 55 → h' p = h p := fun p p1 p2 p3 => (b2 p p2 p3).trans ((f2 p p1).trans (f1 p p3))
    have PP' : PR h' N := by unfold PR; rw [fr 7 (by decide) (by decide) (by decide), fr 8 (by decide) (by decide) (by decide), fr 9 (by decide) (by decide) (by decide), fr 10 (by decide) (by decide) (by decide)]; exact PP
    have AA' : AR h' N := by unfold AR; rw [fr 17 (by decide) (by decide) (by decide), fr 18 (by decide) (by decide) (by decide), fr 19 (by decide) (by decide) (by decide), fr 20 (by decide) (by decide) (by decide), fr 21 (by decide) (by decide) (by decide), fr 22 (by decide) (by decide) (by decide)]; exact AA
    refine g_At_sumPulls_20 ?_
    rw [fr 1 (by decide) (by decide) (by decide), LL.1, fr 0 (by decide) (by decide) (by decide), e4]
    refine ⟨fun hc => H h' fr (fun f g0 g1 => by rw [b3 f g0 g1, show x3 = N 0 by omega]), fun hc => am_lifti (Nat.le_of_ble_eq_true rfl) (S_saidBy O F C PP' AA' (fun h3 f3 => ?_))⟩
    have sb := sd_bd (N := N) (d := N 4) (v := x3) (t := t) F.1.1
    have ps := fun f => pul_s (N := N) (D := D) (S := fun v => sd N (N 4) v t) (a := a) (f := f) b0
    have fr3 : ∀ p, p ≠ 23 → p ≠ 55 → h3 p = h2 p := fun p p1 p2 => (f3 p p1).trans (b2 p p1 p2)
    have go : ¬ (x3 ≠ a ∧ D a x3 < 1000000 ∧ 0 ≤ sd N (N 4) x3 t) → am_ok (x3 + 1) ∧ am_x (am_cd 4) 216 (am_qv P) 0 20 [some (.inr (.inr 0)), some (.inl a), some (.inl t), some (.inl (x3 + 1)), none] [] h3 := by
      intro k
      refine ⟨by omega, ih hc h3 (by omega) (by omega) fr3 (fun f g0 g1 => ?_)⟩
      rw [ps f, if_neg (fun y => k ⟨y.1, y.2.1, by have z : sd N (N 4) x3 t = f := y.2.2; omega⟩), f3 55 (by decide)]
      exact b3 f g0 g1
    refine ⟨fun c => go (fun k => k.1 c), fun c => ⟨fun c2 => go (fun k => by omega), fun c2 => ⟨by omega, ?_⟩⟩⟩
    have l2 := LL.2.1 x3 b0 hc
    rw [fr3 6 (by decide) (by decide), e6 x3 b0 hc, fr3 4 (by decide) (by decide), f2 4 (by decide), f1 4 (by decide), l2.2.2, f3 55 (by decide)]
    refine ⟨fun c3 => ⟨by have := F.1; omega, ?_⟩, fun c3 => go (fun k => by omega)⟩
    have hF := F.1
    have sf : 0 ≤ sd N (N 4) x3 t ∧ sd N (N 4) x3 t < N 2 := by omega
    rw [b3 _ sf.1 (by omega)]
    have fb := (L.2.1 x3 b0 hc).2.2
    have db := D_bd W a0 a1 b0 hc
    have q := div_bd (a := N (12 + 3 * x3)) (b := 1 + D a x3) (by omega) (by omega)
    have pb := pul_bd (S := fun v => sd N (N 4) v t) (f := sd N (N 4) x3 t) L W a0 a1 x3.toNat (by omega)
    refine ⟨⟨by omega, by omega, ?_, by omega⟩, ih hc _ (by omega) (by omega) (fun p p1 p2 => (up_ne p2).trans (fr3 p p1 p2)) (fun f g0 g1 => ?_)⟩
    · generalize N (12 + 3 * x3) / (1 + D a x3) = z at *
      omega
    · rw [ps f, up_same]
      by_cases k : f = sd N (N 4) x3 t
      · rw [if_pos k, if_pos ⟨c, c3, k.symm⟩, k]
      · rw [if_neg k, if_neg (fun y => k y.2.2.symm), f3 55 (by decide)]; exact b3 f g0 g1
  exact key 0 h2 (by omega) hN.1 (fun _ _ _ => rfl) (fun f g0 g1 => by rw [f2 55 (by decide)]; exact w1 f g0 g1)
theorem S_foretold {N : Int → Int} {D : Int → Int → Int} {h : am_H} {a t : Int} {P : Int → am_H → Prop} (L : OL N) (O : OP N) (F : OF N) (C : OA N) (W : DW N D) (LL : LR h N) (PP : PR h N) (AA : AR h N) (e4 : h 0 12 = N 4) (hf : am_ok (h 0 13 + 1)) (H : ∀ h1, (∀ p, p ≠ 0 → p ≠ 6 → p ≠ 23 → p ≠ 55 → h1 p = h p) → (∀ j, j ≠ 13 → h1 0 j = h 0 j) → h1 0 13 = h 0 13 + (if fto N D a t < -99999 then 1 else 0) → P (fto N D a t) h1) : ∃ a_ h_, am_cd 6 226 [.inr (.inr 0), .inl a, .inl t] h (some (.inl a_)) h_ ∧ P a_ h_ := by
  have hN := L.1
  have er : ∀ c h', (∀ p, p ≠ 6 → p ≠ 23 → p ≠ 55 → h' p = h p) → fto N D a t = c → c < -99999 → am_ok (h' 0 13 + 1) ∧ P c (am_up h' 0 13 (h' 0 13 + 1)) := by
    intro c h' f e l
    rw [f 0 (by decide) (by decide) (by decide)]
    refine ⟨hf, ?_⟩
    rw [← e]
    refine H _ (fun p p1 p2 p3 p4 => by rw [up_ne p1, f p p2 p3 p4]) (fun j j0 => by rw [up_same, if_neg j0, f 0 (by decide) (by decide) (by decide)]) ?_
    rw [up_same, if_pos rfl, e, if_pos l]
  refine e_At_foretold ?_
  rw [LL.1]
  refine ⟨fun c => ⟨fun c2 => ?_, fun c2 => er _ h (fun _ _ _ _ => rfl) (by unfold fto; rw [if_neg (fun k => c2 ⟨k.2.2.1, k.2.2.2⟩)]) (by decide)⟩, fun c => er _ h (fun _ _ _ _ => rfl) (by unfold fto; rw [if_neg (fun k => c ⟨k.1, k.2.1⟩)]) (by decide)⟩
  refine am_liftv (Nat.le_of_ble_eq_true rfl) (S_sumPulls L O F C W LL PP AA e4 c.1 c.2 (fun h1 f1 w1 => ?_))
  have r0 : fto N D a t = if (fbt (fun f => pul N D (fun v => sd N (N 4) v t) a f (N 0).toNat) (N 2).toNat).1 < 0 then -100006 else (fbt (fun f => pul N D (fun v => sd N (N 4) v t) a f (N 0).toNat) (N 2).toNat).1 := by unfold fto; rw [if_pos ⟨c.1, c.2, c2.1, c2.2⟩]
  have hF := F.1
  have ex := fbt_ext (g := fun f => pul N D (fun v => sd N (N 4) v t) a f (N 0).toNat) (a := N 2) hF.1 (30 - N 2).toNat (fun f g0 g1 => pul_no _ (fun v v0 v1 => by
    have sb := sd_bd (N := N) (d := N 4) (v := v) (t := t) hF.1
    show sd N (N 4) v t ≠ f
    omega))
  rw [show N 2 + ((30 - N 2).toNat : Int) = 30 by omega] at ex
  rw [← ex] at r0
  have fs := fun (x : Int) (hx : 0 ≤ x) => fbt_s (g := fun f => pul N D (fun v => sd N (N 4) v t) a f (N 0).toNat) hx
  have fd := fun (x : Int) => fbt_bd (g := fun f => pul N D (fun v => sd N (N 4) v t) a f (N 0).toNat) x.toNat
  have key : ∀ x5, 0 ≤ x5 → x5 ≤ 30 → am_x (am_cd 5) 226 (am_qi P) 0 39 [some (.inr (.inr 0)), none, none, some (.inl ((fbt (fun f => pul N D (fun v => sd N (N 4) v t) a f (N 0).toNat) x5.toNat).1)), some (.inl ((fbt (fun f => pul N D (fun v => sd N (N 4) v t) a f (N 0).toNat) x5.toNat).2)), some (.inl x5)] [] h1 := by
    refine upto 30 (fun x5 ih b0 b1 => ?_)
    refine g_At_foretold_39 ⟨fun hc => ?_, fun hc => ⟨by omega, ?_⟩⟩
    · have e : x5 = 30 := by omega
      have bd := fd x5
      rw [e] at bd ⊢
      generalize (fbt (fun f => pul N D (fun v => sd N (N 4) v t) a f (N 0).toNat) (30 : Int).toNat).1 = b at *
      refine ⟨fun c3 => ?_, fun c3 => er _ h1 f1 (by rw [r0, if_pos (by omega)]) (by decide)⟩
      have b0' : 0 ≤ b := by rcases bd.2 with z | z <;> omega
      rw [if_neg (by omega)] at r0
      rw [← r0]
      have e0 : h1 0 = h 0 := f1 0 (by decide) (by decide) (by decide)
      exact H h1 (fun p _ p2 p3 p4 => f1 p p2 p3 p4) (fun j _ => by rw [e0]) (by rw [e0, r0, if_neg (by omega)]; omega)
    · have ih' := ih hc (by omega) (by omega)
      rw [fs x5 b0] at ih'
      rw [w1 x5 b0 hc]
      refine ⟨fun c3 => ⟨by omega, ?_⟩, fun c3 => ⟨by omega, ?_⟩⟩
      · rw [if_neg (Int.not_lt.mpr c3)] at ih'; exact ih'
      · rw [if_pos c3] at ih'; exact ih'
  exact key 0 (by omega) (by omega)
theorem L_Mfore65 {N : Int → Int} {D : Int → Int → Int} {S : Int → Int} {h : am_H} {a t x3 x4 x5 : Int} {P : Int → am_H → Prop} (L : OL N) (W : DW N D) (eN : h 57 = N) (a0 : 0 ≤ a) (a1 : a < N 0) (t0 : 0 ≤ t) (t1 : t < 6) (x50 : 0 ≤ x5) (x51 : x5 < 30) (x4b : -1 ≤ x4) (hS : ∀ u, 0 ≤ u → u < N 0 → h 62 (6 * u + t) = S u) (hw : ∀ b, 0 ≤ b → b < N 0 → (h 59 b < 0 ∧ D a b = 1000000) ∨ (0 ≤ h 59 b ∧ h 59 b = D a b)) (w2 : ∀ v, 0 ≤ v → v < N 0 → h 59 v ≤ 1188) (H : am_ok (x5 + 1) → am_x (am_cd 3) 199 (am_qi P) 0 45 [some (.inr (.inr 56)), some (.inl a), some (.inl t), some (.inl (if x4 < pul N D S a x5 (N 0).toNat then x5 else x3)), some (.inl (if x4 < pul N D S a x5 (N 0).toNat then pul N D S a x5 (N 0).toNat else x4)), some (.inl (x5 + 1)), none, none, none] [] h) : ∀ x8 x6 x7, 0 ≤ x8 → x8 ≤ N 0 → ((x7 = 0 ∧ x6 = 0 ∧ pul N D S a x5 x8.toNat = -1) ∨ (x7 ≠ 0 ∧ 0 ≤ x6 ∧ x6 = pul N D S a x5 x8.toNat)) → am_x (am_cd 3) 199 (am_qi P) 0 65 [some (.inr (.inr 56)), some (.inl a), some (.inl t), some (.inl x3), some (.inl x4), some (.inl x5), some (.inl x6), some (.inl x7), some (.inl x8)] [] h := by
  have hN := L.1
  refine upto (N 0) (fun x8 ih x6 x7 b0 b1 b2 => ?_)
  refine g_Mo_foretold_65 ?_
  rw [eN]
  have ps := pul_s (N := N) (D := D) (S := S) (a := a) (f := x5) b0
  have pb := pul_bd (S := S) (f := x5) L W a0 a1 x8.toNat (by omega)
  refine ⟨fun hc => ?_, fun hc => ?_⟩
  · have H' := H (by omega)
    rw [show x8 = N 0 by omega] at b2
    generalize pul N D S a x5 (N 0).toNat = m at *
    refine ⟨fun c => ⟨by omega, ?_⟩, fun c => ⟨fun c2 => ⟨by omega, ?_⟩, fun c2 => ⟨by omega, ?_⟩⟩⟩
    · rw [if_neg (by omega), if_neg (by omega)] at H'; exact H'
    · rw [if_pos (by omega), if_pos (by omega)] at H'
      rw [show x6 = m by omega]; exact H'
    · rw [if_neg (by omega), if_neg (by omega)] at H'; exact H'
  · rw [hS x8 b0 hc]
    have w := hw x8 b0 hc
    have w3 := w2 x8 b0 hc
    have fb := (L.2.1 x8 b0 hc).2.2
    have no : ¬ (x8 ≠ a ∧ D a x8 < 1000000 ∧ S x8 = x5) → am_ok (x8 + 1) ∧ am_x (am_cd 3) 199 (am_qi P) 0 65 [some (.inr (.inr 56)), some (.inl a), some (.inl t), some (.inl x3), some (.inl x4), some (.inl x5), some (.inl x6), some (.inl x7), some (.inl (x8 + 1))] [] h := by
      intro k
      refine ⟨by omega, ih hc x6 x7 (by omega) (by omega) ?_⟩
      rw [ps, if_neg k]; exact b2
    refine ⟨fun c => no (fun k => k.1 c), fun c => ⟨by omega, fun c2 => no (fun k => by omega), fun c2 => ⟨⟨by omega, by omega, by omega⟩, fun c3 => ⟨⟨by omega, by omega, by omega, by omega⟩, ?_⟩, fun c3 => no (fun k => c3 k.2.2)⟩⟩⟩
    have e : h 59 x8 = D a x8 := by omega
    have q := div_bd (a := N (12 + 3 * x8)) (b := 1 + D a x8) (by omega) (by omega)
    rw [e]
    rw [if_pos ⟨c, by omega, c3⟩] at ps
    refine ⟨⟨by omega, by omega, ?_, by omega⟩, ih hc _ _ (by omega) (by omega) (.inr ⟨by omega, ?_, ?_⟩)⟩
    · generalize N (12 + 3 * x8) / (1 + D a x8) = z at *
      omega
    · generalize N (12 + 3 * x8) / (1 + D a x8) = z at *
      omega
    · rw [ps]
      generalize N (12 + 3 * x8) / (1 + D a x8) = z at *
      omega
theorem S_Mforetold {N : Int → Int} {D : Int → Int → Int} {h : am_H} {a t : Int} {P : Int → am_H → Prop} (L : OL N) (O : OP N) (F : OF N) (C : OA N) (W : DW N D) (eN : h 57 = N) (hf : am_ok (h 56 3 + 1)) (H : ∀ h1, (∀ p, p ≠ 56 → p ≠ 59 → p ≠ 61 → p ≠ 62 → h1 p = h p) → (∀ j, j ≠ 3 → h1 56 j = h 56 j) → h1 56 3 = h 56 3 + (if fto N D a t < -99999 then 1 else 0) → P (fto N D a t) h1) : ∃ a_ h_, am_cd 4 199 [.inr (.inr 56), .inl a, .inl t] h (some (.inl a_)) h_ ∧ P a_ h_ := by
  have hN := L.1
  have hF := F.1
  have er : ∀ c h', (∀ p, p ≠ 59 → p ≠ 61 → p ≠ 62 → h' p = h p) → fto N D a t = c → c < -99999 → am_ok (h' 56 3 + 1) ∧ P c (am_up h' 56 3 (h' 56 3 + 1)) := by
    intro c h' f e l
    rw [f 56 (by decide) (by decide) (by decide)]
    refine ⟨hf, ?_⟩
    rw [← e]
    refine H _ (fun p p1 p2 p3 p4 => by rw [up_ne p1, f p p2 p3 p4]) (fun j j0 => by rw [up_same, if_neg j0, f 56 (by decide) (by decide) (by decide)]) ?_
    rw [up_same, if_pos rfl, e, if_pos l]
  refine e_Mo_foretold ?_
  rw [eN]
  refine ⟨by omega, fun c => ⟨fun c2 => ?_, fun c2 => er _ h (fun _ _ _ _ => rfl) (by unfold fto; rw [if_neg (fun k => c2 ⟨k.2.2.1, by omega⟩)]) (by decide)⟩, fun c => er _ h (fun _ _ _ _ => rfl) (by unfold fto; rw [if_neg (fun k => c ⟨k.1, by omega⟩)]) (by decide)⟩
  refine am_liftv (Nat.le_of_ble_eq_true rfl) (S_Msettle O L F C eN (fun h1 f1 _ w1 => ?_))
  refine am_liftv (Nat.le_of_ble_eq_true rfl) (S_MfindWalks L c.1 (by omega) ((f1 57 (by decide) (by decide)).trans eN) (fun h2 f2 v1 v2 => ?_))
  have e57 : h2 57 = N := (f2 57 (by decide)).trans ((f1 57 (by decide) (by decide)).trans eN)
  have fr : ∀ p, p ≠ 59 → p ≠ 61 → p ≠ 62 → h2 p = h p := fun p p1 p2 p3 => (f2 p p1).trans (f1 p p2 p3)
  have r0 : fto N D a t = if (fbt (fun f => pul N D (fun v => sd N (N 4) v t) a f (N 0).toNat) (N 2).toNat).1 < 0 then -100006 else (fbt (fun f => pul N D (fun v => sd N (N 4) v t) a f (N 0).toNat) (N 2).toNat).1 := by unfold fto; rw [if_pos ⟨c.1, by omega, c2.1, by omega⟩]
  have fs := fun (x : Int) (hx : 0 ≤ x) => fbt_s (g := fun f => pul N D (fun v => sd N (N 4) v t) a f (N 0).toNat) hx
  have fd := fun (x : Int) => fbt_bd (g := fun f => pul N D (fun v => sd N (N 4) v t) a f (N 0).toNat) x.toNat
  have key : ∀ x5, 0 ≤ x5 → x5 ≤ N 2 → am_x (am_cd 3) 199 (am_qi P) 0 45 [some (.inr (.inr 56)), some (.inl a), some (.inl t), some (.inl ((fbt (fun f => pul N D (fun v => sd N (N 4) v t) a f (N 0).toNat) x5.toNat).1)), some (.inl ((fbt (fun f => pul N D (fun v => sd N (N 4) v t) a f (N 0).toNat) x5.toNat).2)), some (.inl x5), none, none, none] [] h2 := by
    refine upto (N 2) (fun x5 ih b0 b1 => ?_)
    refine g_Mo_foretold_45 ?_
    rw [e57]
    refine ⟨fun hc => ?_, fun hc => ?_⟩
    · rw [show x5 = N 2 by omega]
      generalize (fbt (fun f => pul N D (fun v => sd N (N 4) v t) a f (N 0).toNat) (N 2).toNat).1 = b at *
      refine ⟨fun c3 => ?_, fun c3 => er _ h2 fr (by rw [r0, if_pos c3]) (by decide)⟩
      rw [if_neg (by omega)] at r0
      rw [← r0]
      have e0 : h2 56 = h 56 := fr 56 (by decide) (by decide) (by decide)
      exact H h2 (fun p _ p2 p3 p4 => fr p p2 p3 p4) (fun j _ => by rw [e0]) (by rw [e0, r0, if_neg (by omega)]; omega)
    · have ih' := ih hc (by omega) (by omega)
      rw [fs x5 b0] at ih'
      have bd := fd x5
      refine L_Mfore65 (D := D) (S := fun v => sd N (N 4) v t) L W e57 c.1 (by omega) c2.1 (by omega) b0 (by omega) bd.1 (fun u u0 u1 => by rw [f2 62 (by decide)]; exact w1 u t u0 u1 c2.1 (by omega)) (Wof_or W c.1 (by omega) v1 v2) v2 (fun ok => ?_) 0 0 0 (by omega) hN.1 (.inl ⟨rfl, rfl, rfl⟩)
      by_cases k : (fbt (fun f => pul N D (fun v => sd N (N 4) v t) a f (N 0).toNat) x5.toNat).2 < pul N D (fun v => sd N (N 4) v t) a x5 (N 0).toNat
      · rw [if_pos k, if_pos k]
        rw [if_pos k] at ih'; exact ih'
      · rw [if_neg k, if_neg k]
        rw [if_neg k] at ih'; exact ih'
  exact key 0 (by omega) hF.1
