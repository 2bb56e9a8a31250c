/-! borders -/
def al (d x y : Int) : Int := am_ct 2002 d * x + am_ct 2003 d * y
theorem d8 {p : Int → Prop} (h0 : p 0) (h1 : p 1) (h2 : p 2) (h3 : p 3) (h4 : p 4) (h5 : p 5) (h6 : p 6) (h7 : p 7) : ∀ d, 0 ≤ d → d < 8 → p d := by
  intro d d0 d1
  rcases (show d = 0 ∨ d = 1 ∨ d = 2 ∨ d = 3 ∨ d = 4 ∨ d = 5 ∨ d = 6 ∨ d = 7 by omega) with q | q | q | q | q | q | q | q <;> subst q <;> assumption
theorem cx0 : am_ct 2002 0 = 1 := rfl
theorem cx1 : am_ct 2002 1 = 0 := rfl
theorem cx2 : am_ct 2002 2 = 1 := rfl
theorem cx3 : am_ct 2002 3 = 1 := rfl
theorem cx4 : am_ct 2002 4 = 2 := rfl
theorem cx5 : am_ct 2002 5 = 1 := rfl
theorem cx6 : am_ct 2002 6 = 2 := rfl
theorem cx7 : am_ct 2002 7 = 1 := rfl
theorem cy0 : am_ct 2003 0 = 0 := rfl
theorem cy1 : am_ct 2003 1 = 1 := rfl
theorem cy2 : am_ct 2003 2 = 1 := rfl
theorem cy3 : am_ct 2003 3 = -1 := rfl
theorem cy4 : am_ct 2003 4 = 1 := rfl
theorem cy5 : am_ct 2003 5 = 2 := rfl
theorem cy6 : am_ct 2003 6 = -1 := rfl
theorem cy7 : am_ct 2003 7 = -2 := rfl
theorem al_bd {x y : Int} (x0 : 0 ≤ x) (x1 : x ≤ 99) (y0 : 0 ≤ y) (y1 : y ≤ 99) : ∀ d, 0 ≤ d → d < 8 → am_ok (am_ct 2002 d * x) ∧ am_ok (am_ct 2003 d * y) ∧ -198 ≤ al d x y ∧ al d x y ≤ 297 := by
  unfold al
  refine d8 ?_ ?_ ?_ ?_ ?_ ?_ ?_ ?_
  · rw [cx0, cy0]; omega
  · rw [cx1, cy1]; omega
  · rw [cx2, cy2]; omega
  · rw [cx3, cy3]; omega
  · rw [cx4, cy4]; omega
  · rw [cx5, cy5]; omega
  · rw [cx6, cy6]; omega
  · rw [cx7, cy7]; omega
def ht (N : Int → Int) (d v : Int) : Int := al d (N (10 + 3 * v)) (N (11 + 3 * v))
theorem ht_bd {N : Int → Int} {d v : Int} (O : OL N) (d0 : 0 ≤ d) (d1 : d < 8) (v0 : 0 ≤ v) (v1 : v < N 0) : am_ok (am_ct 2002 d * N (10 + 3 * v)) ∧ am_ok (am_ct 2003 d * N (11 + 3 * v)) ∧ -198 ≤ ht N d v ∧ ht N d v ≤ 297 := by
  have o := O.2.1 v v0 v1
  exact al_bd o.1.1 o.1.2 o.2.1.1 o.2.1.2 d d0 d1
theorem S_MalongOf {h : am_H} {x y : Int} {P : Int → am_H → Prop} (x0 : 0 ≤ x) (x1 : x ≤ 99) (y0 : 0 ≤ y) (y1 : y ≤ 99) : ∀ d, 0 ≤ d → d < 8 → P (al d x y) h → ∃ a_ h_, am_cd 1 82 [.inl d, .inl x, .inl y] h (some (.inl a_)) h_ ∧ P a_ h_ := by
  intro d d0 d1 H
  unfold al at H
  refine e_Mo_alongOf ⟨fun c => ?_, fun _ => ⟨fun c => ?_, fun _ => ⟨fun c => ⟨by omega, ?_⟩, fun _ => ⟨fun c => ⟨by omega, ?_⟩, fun _ => ⟨fun c => ⟨⟨by omega, by omega⟩, ?_⟩, fun _ => ⟨fun c => ⟨⟨by omega, by omega⟩, ?_⟩, fun _ => ⟨fun c => ⟨⟨by omega, by omega⟩, ?_⟩, fun c => ⟨⟨by omega, by omega⟩, ?_⟩⟩⟩⟩⟩⟩⟩⟩
  · subst c; rw [cx0, cy0] at H; rw [show 1 * x + 0 * y = x by omega] at H; exact H
  · subst c; rw [cx1, cy1] at H; rw [show 0 * x + 1 * y = y by omega] at H; exact H
  · subst c; rw [cx2, cy2] at H; rw [show 1 * x + 1 * y = x + y by omega] at H; exact H
  · subst c; rw [cx3, cy3] at H; rw [show 1 * x + -1 * y = x - y by omega] at H; exact H
  · subst c; rw [cx4, cy4] at H; rw [show 2 * x + 1 * y = 2 * x + y by omega] at H; exact H
  · subst c; rw [cx5, cy5] at H; rw [show 1 * x + 2 * y = x + 2 * y by omega] at H; exact H
  · subst c; rw [cx6, cy6] at H; rw [show 2 * x + -1 * y = 2 * x - y by omega] at H; exact H
  · have e : d = 7 := by omega
    subst e; rw [cx7, cy7] at H; rw [show 1 * x + -2 * y = x - 2 * y by omega] at H; exact H
def lie (N : Int → Int) (S : Int → Int) (one two d t s : Int) : Int := su (fun v => if S v = (if (if ht N d v < t then (0 : Int) else 1) = s then two else one) then N (12 + 3 * v) else 0) (N 0)
theorem lie_bd {N : Int → Int} {S : Int → Int} {one two d t s : Int} (O : OL N) : 0 ≤ lie N S one two d t s ∧ lie N S one two d t s ≤ 11988 := by
  have := su_bd (f := fun v => if S v = (if (if ht N d v < t then (0 : Int) else 1) = s then two else one) then N (12 + 3 * v) else 0) (B := 999) (n := N 0) (by omega) O.1.1 (fun v v0 v1 => by have := (O.2.1 v v0 v1).2.2; split <;> omega)
  have := O.1
  unfold lie
  omega
abbrev lx (d t s d' t' s' : Int) : Prop := d < d' ∨ (d = d' ∧ (t < t' ∨ (t = t' ∧ s < s')))
def FM (g : Int → Int → Int → Int) (Z : Int → Int → Int → Prop) (L d t s : Int) : Prop := Z d t s ∧ g d t s = L ∧ ∀ d' t' s', Z d' t' s' → L ≤ g d' t' s' ∧ (lx d' t' s' d t s → L < g d' t' s')
theorem FM_one {g : Int → Int → Int → Int} {Z : Int → Int → Int → Prop} {L d t s L' d' t' s' : Int} (A : FM g Z L d t s) (B : FM g Z L' d' t' s') : L = L' ∧ d = d' ∧ t = t' ∧ s = s' := by
  obtain ⟨a1, a2, a3⟩ := A
  obtain ⟨b1, b2, b3⟩ := B
  have x := a3 d' t' s' b1
  have y := b3 d t s a1
  have e : L = L' := by omega
  have n1 : ¬ lx d' t' s' d t s := fun q => by have := x.2 q; omega
  have n2 : ¬ lx d t s d' t' s' := fun q => by have := y.2 q; omega
  omega
/-- a village's height, and no other limit, changes the lies -/
theorem tz {N : Int → Int} {d t : Int} (ht0 : -200 ≤ t) : ∀ n : Nat, ∃ t0, t0 ≤ t ∧ (t0 = -200 ∨ ∃ v : Int, 0 ≤ v ∧ v < n ∧ t0 = ht N d v + 1) ∧ -200 ≤ t0 ∧ ∀ v : Int, 0 ≤ v → v < n → ht N d v < t → ht N d v < t0
  | 0 => ⟨-200, ht0, .inl rfl, by omega, fun v v0 v1 => by omega⟩
  | n + 1 => by
    obtain ⟨t0, a1, a2, a3, a4⟩ := tz ht0 n
    by_cases q : ht N d n < t ∧ t0 ≤ ht N d n
    · refine ⟨ht N d n + 1, by omega, .inr ⟨n, by omega, by omega, rfl⟩, by omega, fun v v0 v1 v2 => ?_⟩
      rcases (show v < n ∨ v = n by omega) with k | k
      · have := a4 v v0 k v2; omega
      · subst k; omega
    · refine ⟨t0, a1, ?_, a3, fun v v0 v1 v2 => ?_⟩
      · rcases a2 with k | ⟨v, v0, v1, v2⟩
        · exact .inl k
        · exact .inr ⟨v, v0, by omega, v2⟩
      · rcases (show v < n ∨ v = n by omega) with k | k
        · exact a4 v v0 k v2
        · subst k; omega
/-- the limits that the class tries, and all -/
def ZC (N : Int → Int) (d t s : Int) : Prop := 0 ≤ d ∧ d < 8 ∧ (s = 0 ∨ s = 1) ∧ (t = -200 ∨ ∃ v, 0 ≤ v ∧ v < N 0 ∧ t = ht N d v + 1)
def ZM (d t s : Int) : Prop := 0 ≤ d ∧ d < 8 ∧ (s = 0 ∨ s = 1) ∧ -200 ≤ t ∧ t ≤ 300
theorem FM_all {N : Int → Int} {S : Int → Int} {one two L d t s : Int} (O : OL N) (A : FM (lie N S one two) (ZC N) L d t s) : FM (lie N S one two) ZM L d t s := by
  obtain ⟨a1, a2, a3⟩ := A
  refine ⟨⟨a1.1, a1.2.1, a1.2.2.1, ?_⟩, a2, fun d' t' s' z => ?_⟩
  · rcases a1.2.2.2 with q | ⟨v, v0, v1, v2⟩
    · omega
    · have := ht_bd O a1.1 a1.2.1 v0 v1; omega
  · obtain ⟨t0, b1, b2, b3, b4⟩ := tz (N := N) (d := d') z.2.2.2.1 (N 0).toNat
    have hN := O.1
    have zc : ZC N d' t0 s' := ⟨z.1, z.2.1, z.2.2.1, by rcases b2 with q | ⟨v, v0, v1, v2⟩; exact .inl q; exact .inr ⟨v, v0, by omega, v2⟩⟩
    have e : lie N S one two d' t' s' = lie N S one two d' t0 s' := by
      refine su_congr (fun v v0 v1 => ?_)
      have k : ht N d' v < t' ↔ ht N d' v < t0 := ⟨fun q => b4 v v0 (by omega) q, fun q => by omega⟩
      by_cases q : ht N d' v < t'
      · rw [if_pos q, if_pos (k.mp q)]
      · rw [if_neg q, if_neg (fun y => q (k.mpr y))]
    have c := a3 d' t0 s' zc
    rw [e]
    exact ⟨c.1, fun q => c.2 (by omega)⟩
/-! the class -/
def FS (g : Int → Int → Int → Int) (Z : Int → Int → Int → Prop) (h : am_H) : Prop := (h 32 4 = 1000000 ∧ ∀ d t s, ¬ Z d t s) ∨ FM g Z (h 32 4) (h 32 5) (h 32 6) (h 32 7)
theorem S_offer {g : Int → Int → Int → Int} {Z : Int → Int → Int → Prop} {h : am_H} {d t s : Int} {P : am_H → Prop} (F : FS g Z h) (hb : g d t s < 1000000) (h1 : ∀ d' t' s', Z d' t' s' → d' ≤ d ∧ (s' = 0 ∨ s' = 1)) (h2 : ∀ s', Z d t s' → s' ≤ s ∨ Z d t s) (H : ∀ h1, (∀ p, p ≠ 32 → h1 p = h p) → h1 32 2 = h 32 2 → h1 32 3 = h 32 3 → FS g (fun d' t' s' => Z d' t' s' ∨ (d' = d ∧ t' = t ∧ s' = s)) h1 → P h1) : ∃ h_, am_cd 1 18 [.inr (.inr 32), .inl (g d t s), .inl d, .inl t, .inl s] h none h_ ∧ P h_ := by
  have u : ∀ {h' : am_H}, h' = am_up (am_up (am_up (am_up h 32 4 (g d t s)) 32 5 d) 32 6 t) 32 7 s → (∀ p, p ≠ 32 → h' p = h p) ∧ h' 32 2 = h 32 2 ∧ h' 32 3 = h 32 3 ∧ h' 32 4 = g d t s ∧ h' 32 5 = d ∧ h' 32 6 = t ∧ h' 32 7 = s := by
    intro h' e
    subst e
    refine ⟨fun p hp => by rw [up_ne hp, up_ne hp, up_ne hp, up_ne hp], ?_, ?_, ?_, ?_, ?_, ?_⟩ <;> simp [up_same]
  have new : (∀ d' t' s', Z d' t' s' → g d t s ≤ g d' t' s' ∧ (lx d' t' s' d t s → g d t s < g d' t' s')) → P (am_up (am_up (am_up (am_up h 32 4 (g d t s)) 32 5 d) 32 6 t) 32 7 s) := by
    intro k
    obtain ⟨u1, u2, u3, u4, u5, u6, u7⟩ := u rfl
    refine H _ u1 u2 u3 (.inr ?_)
    rw [u4, u5, u6, u7]
    refine ⟨.inr ⟨rfl, rfl, rfl⟩, rfl, fun d' t' s' z => ?_⟩
    rcases z with z | ⟨rfl, rfl, rfl⟩
    · exact k d' t' s' z
    · exact ⟨Int.le_refl _, fun q => by omega⟩
  have old : FM g Z (h 32 4) (h 32 5) (h 32 6) (h 32 7) → (h 32 4 ≤ g d t s ∧ (lx d t s (h 32 5) (h 32 6) (h 32 7) → h 32 4 < g d t s)) → P h := by
    intro f k
    refine H h (fun _ _ => rfl) rfl rfl (.inr ⟨.inl f.1, f.2.1, fun d' t' s' z => ?_⟩)
    rcases z with z | ⟨rfl, rfl, rfl⟩
    · exact f.2.2 d' t' s' z
    · exact k
  have lt : g d t s < h 32 4 → P (am_up (am_up (am_up (am_up h 32 4 (g d t s)) 32 5 d) 32 6 t) 32 7 s) := by
    intro q
    refine new (fun d' t' s' z => ?_)
    rcases F with ⟨-, f⟩ | f
    · exact absurd z (f d' t' s')
    · have := (f.2.2 d' t' s' z).1; omega
  have fm : h 32 4 ≤ g d t s → FM g Z (h 32 4) (h 32 5) (h 32 6) (h 32 7) := by
    intro q
    rcases F with ⟨f, -⟩ | f
    · omega
    · exact f
  refine e_Border_offer ⟨fun c => ⟨lt, fun q => ?_⟩, fun c => ⟨fun c2 => ⟨lt, fun q => ?_⟩, fun c2 => ⟨fun c3 => ⟨lt, fun q => ?_⟩, fun c3 => ⟨lt, fun q => ?_⟩⟩⟩⟩
  · exact old (fm q) ⟨q, fun _ => by omega⟩
  · have f := fm q
    refine old f ⟨q, fun k => ?_⟩
    have := (h1 _ _ _ f.1).1
    omega
  · have f := fm q
    refine old f ⟨q, fun k => ?_⟩
    exfalso
    have e1 : t = h 32 6 := by omega
    have z := f.1
    rw [← c2, ← e1] at z
    rcases h2 _ z with y | y
    · omega
    · have := (f.2.2 d t s y).2 k
      omega
  · have f := fm q
    refine new (fun d' t' s' z => ?_)
    have y := f.2.2 d' t' s' z
    exact ⟨by omega, fun k => by have := y.2 (by omega); omega⟩
/-- who says which of two -/
def LSN (N : Int → Int) (S : Int → Int) (one two : Int) (h : am_H) : Prop := (∀ v, 0 ≤ v → v < 32 → (tb (h 32 2) v ↔ v < N 0 ∧ S v = one)) ∧ ∀ v, 0 ≤ v → v < 32 → (tb (h 32 3) v ↔ v < N 0 ∧ S v = two)
theorem lie_eq {N : Int → Int} {S : Int → Int} {one two d t s a b c : Int} (O : OL N) (hs : s = 0 ∨ s = 1) (ha : ∀ v, 0 ≤ v → v < 32 → (tb a v ↔ v < N 0 ∧ ht N d v < t)) (hb : ∀ v, 0 ≤ v → v < 32 → (tb b v ↔ v < N 0 ∧ S v = if s = 0 then two else one)) (hc : ∀ v, 0 ≤ v → v < 32 → (tb c v ↔ v < N 0 ∧ S v = if s = 0 then one else two)) : fo N (am_or (am_and a b) (am_and (am_xor a (-1)) c)) (N 0) = lie N S one two d t s := by
  have hN := O.1
  refine su_congr (fun v v0 v1 => ?_)
  have h32 : v < 32 := by omega
  have k : tb (am_or (am_and a b) (am_and (am_xor a (-1)) c)) v ↔ S v = (if (if ht N d v < t then (0 : Int) else 1) = s then two else one) := by
    rw [tb_or v0 h32, tb_and v0 h32, tb_and v0 h32, tb_not v0 h32, ha v v0 h32, hb v v0 h32, hc v v0 h32]
    by_cases q : ht N d v < t <;> rcases hs with e | e <;> subst e <;> simp [q, v1]
  by_cases q : S v = (if (if ht N d v < t then (0 : Int) else 1) = s then two else one)
  · rw [if_pos q, if_pos (k.mpr q)]
  · rw [if_neg q, if_neg (fun y => q (k.mp y))]
theorem L_weigh {N : Int → Int} {S : Int → Int} {one two d t : Int} {Z : Int → Int → Int → Prop} {h : am_H} {P : am_H → Prop} (O : OL N) (R : LR h N) (LL : LSN N S one two h) (F : FS (lie N S one two) Z h) (d0 : 0 ≤ d) (d1 : d < 8) (h1 : ∀ d' t' s', Z d' t' s' → d' ≤ d ∧ (s' = 0 ∨ s' = 1)) (h2 : ∀ s', Z d t s' → Z d t 0) (H : ∀ h1, (∀ p, p ≠ 32 → h1 p = h p) → LSN N S one two h1 → FS (lie N S one two) (fun d' t' s' => Z d' t' s' ∨ (d' = d ∧ t' = t ∧ (s' = 0 ∨ s' = 1))) h1 → P h1) : ∀ x4 x3, 0 ≤ x4 → x4 ≤ N 0 → (∀ v, 0 ≤ v → v < 32 → (tb x3 v ↔ v < x4 ∧ ht N d v < t)) → am_x (am_cd 2) 140 (am_qv P) 0 5 [some (.inr (.inr 32)), some (.inl d), some (.inl t), some (.inl x3), some (.inl x4)] [] h := by
  have hN := O.1
  have R0 := R.1
  refine upto (N 0) (fun x4 ih x3 a0 a1 a2 => ?_)
  refine g_Border_weigh_5 ⟨fun hc => ?_, fun hc => ?_⟩
  · have e : x4 = N 0 := by omega
    subst e
    have lb := fun s => lie_bd (S := S) (one := one) (two := two) (d := d) (t := t) (s := s) O
    refine am_lifti (Nat.le_of_ble_eq_true rfl) (S_folkOf O R ?_)
    rw [lie_eq (S := S) (one := one) (two := two) (s := 0) O (.inl rfl) a2 (fun v v0 v1 => by rw [if_pos rfl]; exact LL.2 v v0 v1) (fun v v0 v1 => by rw [if_pos rfl]; exact LL.1 v v0 v1)]
    refine am_liftv (Nat.le_of_ble_eq_true rfl) (S_offer F (by have := lb 0; omega) h1 (fun s' z => .inr (h2 s' z)) (fun h3 f1 f2 f3 F3 => ?_))
    have R3 : LR h3 N := LR_of (f1 _ (by decide)) (f1 _ (by decide)) (f1 _ (by decide)) (f1 _ (by decide)) (f1 _ (by decide)) R
    rw [f2, f3]
    refine am_lifti (Nat.le_of_ble_eq_true rfl) (S_folkOf O R3 ?_)
    rw [lie_eq (S := S) (one := one) (two := two) (s := 1) O (.inr rfl) a2 (fun v v0 v1 => by rw [if_neg (by omega)]; exact LL.1 v v0 v1) (fun v v0 v1 => by rw [if_neg (by omega)]; exact LL.2 v v0 v1)]
    refine am_liftv (Nat.le_of_ble_eq_true rfl) (S_offer F3 (by have := lb 1; omega) ?_ ?_ (fun h4 k1 k2 k3 F4 => H h4 (fun p hp => (k1 p hp).trans (f1 p hp)) ?_ ?_))
    · rintro d' t' s' (z | ⟨rfl, rfl, rfl⟩)
      · exact h1 d' t' s' z
      · exact ⟨Int.le_refl _, .inl rfl⟩
    · rintro s' (z | ⟨-, -, rfl⟩)
      · have := (h1 _ _ _ z).2; omega
      · omega
    · unfold LSN; rw [k2, k3, f2, f3]; exact LL
    · have ex : (fun d' t' s' => (Z d' t' s' ∨ (d' = d ∧ t' = t ∧ s' = 0)) ∨ (d' = d ∧ t' = t ∧ s' = 1)) = (fun d' t' s' => Z d' t' s' ∨ (d' = d ∧ t' = t ∧ (s' = 0 ∨ s' = 1))) := by
        funext d' t' s'
        apply propext
        constructor
        · rintro ((z | z) | z)
          · exact .inl z
          · exact .inr ⟨z.1, z.2.1, .inl z.2.2⟩
          · exact .inr ⟨z.1, z.2.1, .inr z.2.2⟩
        · rintro (z | ⟨z1, z2, z3 | z3⟩)
          · exact .inl (.inl z)
          · exact .inl (.inr ⟨z1, z2, z3⟩)
          · exact .inr ⟨z1, z2, z3⟩
      rw [← ex]; exact F4
  · have r := R.2.1 x4 a0 (by omega)
    have b := ht_bd O d0 d1 a0 (show x4 < N 0 by omega)
    unfold ht al at b
    rw [r.1, r.2.1]
    refine ⟨by omega, by omega, by omega, ⟨by omega, by omega⟩, fun c => ⟨by omega, ih (by omega) _ (by omega) (by omega) (fun v v0 v1 => ?_)⟩, fun c => ⟨by omega, ih (by omega) _ (by omega) (by omega) (fun v v0 v1 => ?_)⟩⟩
    · rw [tb_or v0 v1, a2 v v0 v1]
      by_cases q : v = x4
      · subst q
        refine ⟨fun y => by rcases y with y | y; omega; exact absurd y tb_zero, fun y => ?_⟩
        have := y.2
        unfold ht al at this
        omega
      · exact ⟨fun y => by rcases y with y | y; exact ⟨by omega, y.2⟩; exact absurd y tb_zero, fun y => .inl ⟨by omega, y.2⟩⟩
    · rw [tb_add v0 v1 a0 (by omega), a2 v v0 v1]
      by_cases q : v = x4
      · subst q
        exact ⟨fun _ => ⟨by omega, c⟩, fun _ => .inr rfl⟩
      · exact ⟨fun y => by rcases y with y | y; exact ⟨by omega, y.2⟩; exact absurd y q, fun y => .inl ⟨by omega, y.2⟩⟩
theorem S_weigh {N : Int → Int} {S : Int → Int} {one two d t : Int} {Z : Int → Int → Int → Prop} {h : am_H} {P : am_H → Prop} (O : OL N) (R : LR h N) (LL : LSN N S one two h) (F : FS (lie N S one two) Z h) (d0 : 0 ≤ d) (d1 : d < 8) (h1 : ∀ d' t' s', Z d' t' s' → d' ≤ d ∧ (s' = 0 ∨ s' = 1)) (h2 : ∀ s', Z d t s' → Z d t 0) (H : ∀ h1, (∀ p, p ≠ 32 → h1 p = h p) → LSN N S one two h1 → FS (lie N S one two) (fun d' t' s' => Z d' t' s' ∨ (d' = d ∧ t' = t ∧ (s' = 0 ∨ s' = 1))) h1 → P h1) : ∃ h_, am_cd 3 140 [.inr (.inr 32), .inl d, .inl t] h none h_ ∧ P h_ :=
  e_Border_weigh (L_weigh O R LL F d0 d1 h1 h2 H 0 0 (by omega) O.1.1 (fun v v0 v1 => ⟨fun q => absurd q tb_zero, fun q => by omega⟩))
theorem FS_ex {g : Int → Int → Int → Int} {Z Z' : Int → Int → Int → Prop} {h : am_H} (e : ∀ d t s, Z d t s ↔ Z' d t s) (F : FS g Z h) : FS g Z' h := by
  have : Z = Z' := by funext d t s; exact propext (e d t s)
  rw [← this]; exact F
def ZD (N : Int → Int) (D V d t s : Int) : Prop := 0 ≤ d ∧ (s = 0 ∨ s = 1) ∧ ((d < D ∧ (t = -200 ∨ ∃ u, 0 ≤ u ∧ u < N 0 ∧ t = ht N d u + 1)) ∨ (d = D ∧ 0 ≤ V ∧ (t = -200 ∨ ∃ u, 0 ≤ u ∧ u < V ∧ t = ht N d u + 1)))
theorem L_draw39 {N : Int → Int} {S : Int → Int} {one two d : Int} {h0 : am_H} {P : am_H → Prop} (O : OL N) (d0 : 0 ≤ d) (d1 : d < 8) (H : ∀ h, LR h N → (∀ p, p ≠ 32 → h p = h0 p) → LSN N S one two h → FS (lie N S one two) (ZD N (d + 1) (-1)) h → am_x (am_cd 4) 202 (am_qv P) 0 18 [some (.inr (.inr 32)), none, none, none, none, some (.inl (d + 1)), none] [] h) : ∀ x6 h, 0 ≤ x6 → x6 ≤ N 0 → LR h N → (∀ p, p ≠ 32 → h p = h0 p) → LSN N S one two h → FS (lie N S one two) (ZD N d x6) h → am_x (am_cd 4) 202 (am_qv P) 0 39 [some (.inr (.inr 32)), none, none, none, none, some (.inl d), some (.inl x6)] [] h := by
  have hN := O.1
  refine upto (N 0) (fun x6 ih h a0 a1 R a2 LL F => ?_)
  have R0 := R.1
  refine g_Border_draw_39 ⟨fun hc => ⟨by omega, H h R a2 LL (FS_ex (fun d' t' s' => ?_) F)⟩, fun hc => ?_⟩
  · have e : x6 = N 0 := by omega
    subst e
    unfold ZD
    constructor
    · rintro ⟨z1, z2, z3⟩
      refine ⟨z1, z2, .inl ?_⟩
      rcases z3 with ⟨y1, y2⟩ | ⟨y1, y2, y3⟩
      · exact ⟨by omega, y2⟩
      · exact ⟨by omega, y3⟩
    · rintro ⟨z1, z2, z3⟩
      refine ⟨z1, z2, ?_⟩
      rcases z3 with ⟨y1, y2⟩ | ⟨y1, y2, y3⟩
      · by_cases q : d' = d
        · exact .inr ⟨q, hN.1, y2⟩
        · exact .inl ⟨by omega, y2⟩
      · omega
  · have r := R.2.1 x6 a0 (by omega)
    have b := ht_bd O d0 d1 a0 (show x6 < N 0 by omega)
    have eh : am_ct 2002 d * N (10 + 3 * x6) + am_ct 2003 d * N (11 + 3 * x6) = ht N d x6 := rfl
    rw [r.1, r.2.1, eh]
    refine ⟨by omega, by omega, by omega, ⟨by omega, by omega⟩, by omega, am_liftv (Nat.le_of_ble_eq_true rfl) (S_weigh O R LL F d0 d1 ?_ ?_ (fun h1 f1 L1 F1 => ⟨by omega, ih (by omega) h1 (by omega) (by omega) (LR_of (f1 _ (by decide)) (f1 _ (by decide)) (f1 _ (by decide)) (f1 _ (by decide)) (f1 _ (by decide)) R) (fun p hp => (f1 p hp).trans (a2 p hp)) L1 (FS_ex (fun d' t' s' => ?_) F1)⟩))⟩
    · rintro d' t' s' ⟨z1, z2, z3⟩
      exact ⟨by omega, z2⟩
    · rintro s' ⟨z1, z2, z3⟩
      exact ⟨z1, .inl rfl, z3⟩
    · unfold ZD
      constructor
      · rintro (⟨z1, z2, z3⟩ | ⟨z1, z2, z3⟩)
        · refine ⟨z1, z2, ?_⟩
          rcases z3 with y | ⟨y1, y2, y3⟩
          · exact .inl y
          · refine .inr ⟨y1, by omega, ?_⟩
            rcases y3 with y | ⟨u, u0, u1, u2⟩
            · exact .inl y
            · exact .inr ⟨u, u0, by omega, u2⟩
        · exact ⟨by omega, z3, .inr ⟨z1, by omega, .inr ⟨x6, a0, by omega, by rw [z1]; exact z2⟩⟩⟩
      · rintro ⟨z1, z2, z3⟩
        rcases z3 with y | ⟨y1, y2, y3⟩
        · exact .inl ⟨z1, z2, .inl y⟩
        · rcases y3 with y | ⟨u, u0, u1, u2⟩
          · exact .inl ⟨z1, z2, .inr ⟨y1, a0, .inl y⟩⟩
          · by_cases q : u = x6
            · subst q; exact .inr ⟨y1, by rw [y1] at u2; exact u2, z2⟩
            · exact .inl ⟨z1, z2, .inr ⟨y1, a0, .inr ⟨u, u0, by omega, u2⟩⟩⟩
theorem L_draw18 {N : Int → Int} {S : Int → Int} {one two : Int} {h0 : am_H} {P : am_H → Prop} (O : OL N) (H : ∀ h, (∀ p, p ≠ 32 → h p = h0 p) → FM (lie N S one two) ZM (h 32 4) (h 32 5) (h 32 6) (h 32 7) → P h) : ∀ x5 h, 0 ≤ x5 → x5 ≤ 8 → LR h N → (∀ p, p ≠ 32 → h p = h0 p) → LSN N S one two h → FS (lie N S one two) (ZD N x5 (-1)) h → am_x (am_cd 4) 202 (am_qv P) 0 18 [some (.inr (.inr 32)), none, none, none, none, some (.inl x5), none] [] h := by
  have hN := O.1
  refine upto 8 (fun x5 ih h a0 a1 R a2 LL F => ?_)
  refine g_Border_draw_18 ⟨fun hc => H h a2 ?_, fun hc => ?_⟩
  · have e : x5 = 8 := by omega
    subst e
    rcases F with ⟨-, f⟩ | f
    · exact absurd ⟨by omega, .inl rfl, .inl ⟨by omega, .inl rfl⟩⟩ (f 0 (-200) 0)
    · refine FM_all O ?_
      have ez : ZD N 8 (-1) = ZC N := by
        funext d t s
        apply propext
        unfold ZD ZC
        constructor
        · rintro ⟨z1, z2, z3⟩
          rcases z3 with ⟨y1, y2⟩ | ⟨y1, y2, y3⟩
          · exact ⟨z1, y1, z2, y2⟩
          · omega
        · rintro ⟨z1, z2, z3, z4⟩
          exact ⟨z1, z3, .inl ⟨z2, z4⟩⟩
      rw [← ez]; exact f
  · refine am_liftv (Nat.le_of_ble_eq_true rfl) (S_weigh O R LL F a0 hc ?_ ?_ (fun h1 f1 L1 F1 => L_draw39 O a0 hc (fun h R a2 LL F => ih hc h (by omega) (by omega) R a2 LL F) 0 h1 (by omega) hN.1 (LR_of (f1 _ (by decide)) (f1 _ (by decide)) (f1 _ (by decide)) (f1 _ (by decide)) (f1 _ (by decide)) R) (fun p hp => (f1 p hp).trans (a2 p hp)) L1 (FS_ex (fun d' t' s' => ?_) F1)))
    · rintro d' t' s' ⟨z1, z2, z3⟩
      exact ⟨by omega, z2⟩
    · rintro s' ⟨z1, z2, z3⟩
      omega
    · unfold ZD
      constructor
      · rintro (⟨z1, z2, z3⟩ | ⟨z1, z2, z3⟩)
        · exact ⟨z1, z2, .inl (by rcases z3 with y | y; exact y; omega)⟩
        · exact ⟨by omega, z3, .inr ⟨z1, by omega, .inl z2⟩⟩
      · rintro ⟨z1, z2, z3⟩
        rcases z3 with y | ⟨y1, y2, y3⟩
        · exact .inl ⟨z1, z2, .inl y⟩
        · rcases y3 with y | ⟨u, u0, u1, u2⟩
          · exact .inr ⟨y1, y, z2⟩
          · omega
theorem L_listen {N : Int → Int} {h0 : am_H} {th one two d : Int} {P : am_H → Prop} (L : OL N) (O : OP N) (F : OF N) (C : OA N) (H : ∀ h, (∀ p, p ≠ 23 → p ≠ 32 → h p = h0 p) → LSN N (fun v => sd N d v th) one two h → P h) : ∀ x5 h, 0 ≤ x5 → x5 ≤ N 0 → LR h N → PR h N → AR h N → (∀ p, p ≠ 23 → p ≠ 32 → h p = h0 p) → (∀ v, 0 ≤ v → v < 32 → (tb (h 32 2) v ↔ v < x5 ∧ sd N d v th = one)) → (∀ v, 0 ≤ v → v < 32 → (tb (h 32 3) v ↔ v < x5 ∧ sd N d v th = two)) → am_x (am_cd 3) 175 (am_qv P) 0 13 [some (.inr (.inr 32)), some (.inl th), some (.inl one), some (.inl two), some (.inl d), some (.inl x5), none] [] h := by
  have hN := L.1
  refine upto (N 0) (fun x5 ih h a0 a1 R PP AA a2 a3 a4 => ?_)
  have R0 := R.1
  refine g_Border_listen_13 ⟨fun hc => ?_, fun hc => ?_⟩
  · have e : x5 = N 0 := by omega
    subst e
    exact H h a2 ⟨a3, a4⟩
  · refine am_lifti (Nat.le_of_ble_eq_true rfl) (S_saidBy O F C PP AA (fun h1 f1 => ?_))
    have e32 : h1 32 = h 32 := f1 32 (by decide)
    rw [e32]
    have no : ∀ {b w : Int}, (∀ v, 0 ≤ v → v < 32 → (tb b v ↔ v < x5 ∧ sd N d v th = w)) → sd N d x5 th ≠ w → ∀ v, 0 ≤ v → v < 32 → (tb (am_or b 0) v ↔ v < x5 + 1 ∧ sd N d v th = w) := by
      intro b w k q v v0 v1
      rw [tb_or v0 v1, k v v0 v1]
      by_cases e : v = x5
      · subst e; exact ⟨fun y => by rcases y with y | y; omega; exact absurd y tb_zero, fun y => absurd y.2 q⟩
      · exact ⟨fun y => by rcases y with y | y; exact ⟨by omega, y.2⟩; exact absurd y tb_zero, fun y => .inl ⟨by omega, y.2⟩⟩
    have ye : ∀ {b w : Int}, (∀ v, 0 ≤ v → v < 32 → (tb b v ↔ v < x5 ∧ sd N d v th = w)) → sd N d x5 th = w → ∀ v, 0 ≤ v → v < 32 → (tb (am_or b (am_shl 1 x5)) v ↔ v < x5 + 1 ∧ sd N d v th = w) := by
      intro b w k q v v0 v1
      rw [tb_add v0 v1 a0 (by omega), k v v0 v1]
      by_cases e : v = x5
      · subst e; exact ⟨fun y => ⟨by omega, q⟩, fun y => .inr rfl⟩
      · exact ⟨fun y => by rcases y with y | y; exact ⟨by omega, y.2⟩; exact absurd y e, fun y => .inl ⟨by omega, y.2⟩⟩
    have go : ∀ y2 y3, (∀ v, 0 ≤ v → v < 32 → (tb y2 v ↔ v < x5 + 1 ∧ sd N d v th = one)) → (∀ v, 0 ≤ v → v < 32 → (tb y3 v ↔ v < x5 + 1 ∧ sd N d v th = two)) → am_x (am_cd 3) 175 (am_qv P) 0 13 [some (.inr (.inr 32)), some (.inl th), some (.inl one), some (.inl two), some (.inl d), some (.inl (x5 + 1)), none] [] (am_up (am_up h1 32 2 y2) 32 3 y3) := by
      intro y2 y3 k2 k3
      have f : ∀ p, p ≠ 23 → p ≠ 32 → am_up (am_up h1 32 2 y2) 32 3 y3 p = h p := fun p p1 p2 => by rw [up_ne p2, up_ne p2]; exact f1 p p1
      have f' : ∀ p, p ≠ 23 → p ≠ 32 → am_up (am_up h1 32 2 y2) 32 3 y3 p = h p := f
      refine ih (by omega) _ (by omega) (by omega) (LR_of (f _ (by decide) (by decide)) (f _ (by decide) (by decide)) (f _ (by decide) (by decide)) (f _ (by decide) (by decide)) (f _ (by decide) (by decide)) R) (PR_of (f _ (by decide) (by decide)) (f _ (by decide) (by decide)) (f _ (by decide) (by decide)) (f _ (by decide) (by decide)) PP) (AR_of (by rw [f 17 (by decide) (by decide)]) (f _ (by decide) (by decide)) (f _ (by decide) (by decide)) (f _ (by decide) (by decide)) (f _ (by decide) (by decide)) (f _ (by decide) (by decide)) AA) (fun p p1 p2 => (f p p1 p2).trans (a2 p p1 p2)) ?_ ?_
      · have : am_up (am_up h1 32 2 y2) 32 3 y3 32 2 = y2 := by rw [up_same, if_neg (by decide), up_same, if_pos rfl]
        rw [this]; exact k2
      · have : am_up (am_up h1 32 2 y2) 32 3 y3 32 3 = y3 := by rw [up_same, if_pos rfl]
        rw [this]; exact k3
    exact ⟨fun c => ⟨fun c2 => ⟨by omega, go _ _ (no a3 c) (no a4 c2)⟩, fun c2 => ⟨by omega, go _ _ (no a3 c) (ye a4 c2)⟩⟩, fun c => ⟨fun c2 => ⟨by omega, go _ _ (ye a3 c) (no a4 c2)⟩, fun c2 => ⟨by omega, go _ _ (ye a3 c) (ye a4 c2)⟩⟩⟩
theorem S_draw {N : Int → Int} {h : am_H} {th one two d : Int} {P : am_H → Prop} (L : OL N) (O : OP N) (F : OF N) (C : OA N) (R : LR h N) (PP : PR h N) (AA : AR h N) (H : ∀ h1, (∀ p, p ≠ 23 → p ≠ 32 → h1 p = h p) → FM (lie N (fun v => sd N d v th) one two) ZM (h1 32 4) (h1 32 5) (h1 32 6) (h1 32 7) → P h1) : ∃ h_, am_cd 5 202 [.inr (.inr 32), .inl th, .inl one, .inl two, .inl d] h none h_ ∧ P h_ := by
  have f : ∀ p, p ≠ 32 → am_up (am_up h 32 2 0) 32 3 0 p = h p := fun p hp => by rw [up_ne hp, up_ne hp]
  refine e_Border_draw (am_liftv (Nat.le_of_ble_eq_true rfl) (e_Border_listen (L_listen L O F C (fun h1 f1 L1 => ?_) 0 _ (by omega) L.1.1 (LR_of (f _ (by decide)) (f _ (by decide)) (f _ (by decide)) (f _ (by decide)) (f _ (by decide)) R) (PR_of (f _ (by decide)) (f _ (by decide)) (f _ (by decide)) (f _ (by decide)) PP) (AR_of (by rw [f 17 (by decide)]) (f _ (by decide)) (f _ (by decide)) (f _ (by decide)) (f _ (by decide)) (f _ (by decide)) AA) (fun _ _ _ => rfl) ?_ ?_)))
  · have g : ∀ p, p ≠ 23 → p ≠ 32 → h1 p = h p := fun p p1 p2 => (f1 p p1 p2).trans (f p p2)
    have g2 : ∀ p, p ≠ 32 → am_up h1 32 4 1000000 p = h1 p := fun p hp => up_ne hp
    refine L_draw18 (h0 := am_up h1 32 4 1000000) L (fun h2 k1 k2 => H h2 (fun p p1 p2 => (k1 p p2).trans ((g2 p p2).trans (g p p1 p2))) k2) 0 _ (by omega) (by omega) ?_ (fun _ _ => rfl) ?_ (.inl ⟨by rw [up_same, if_pos rfl], fun d t s z => ?_⟩)
    · exact LR_of ((g2 _ (by decide)).trans (g _ (by decide) (by decide))) ((g2 _ (by decide)).trans (g _ (by decide) (by decide))) ((g2 _ (by decide)).trans (g _ (by decide) (by decide))) ((g2 _ (by decide)).trans (g _ (by decide) (by decide))) ((g2 _ (by decide)).trans (g _ (by decide) (by decide))) R
    · unfold LSN
      rw [show am_up h1 32 4 1000000 32 2 = h1 32 2 by rw [up_same, if_neg (by decide)], show am_up h1 32 4 1000000 32 3 = h1 32 3 by rw [up_same, if_neg (by decide)]]
      exact L1
    · obtain ⟨z1, z2, z3⟩ := z
      omega
  · intro v v0 v1
    rw [show am_up (am_up h 32 2 0) 32 3 0 32 2 = 0 by rw [up_same, if_neg (by decide), up_same, if_pos rfl]]
    exact ⟨fun q => absurd q tb_zero, fun q => by omega⟩
  · intro v v0 v1
    rw [show am_up (am_up h 32 2 0) 32 3 0 32 3 = 0 by rw [up_same, if_pos rfl]]
    exact ⟨fun q => absurd q tb_zero, fun q => by omega⟩
