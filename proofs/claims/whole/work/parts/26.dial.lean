/-! the best of all ways to part the villages -/
def updr (r : Int → Int) (v x : Int) : Int → Int := fun u => if u = v then x else r u
def Sc (A : Int → Int → Int) (u d : Int) (r : Int → Int) (v0 : Int) : Int := su (fun w => if r w = d then A w u else 0) v0
def pcs (A : Int → Int → Int) (v d : Int) (r : Int → Int) (used : Int) : Int := Sc A v d r v + (if d = used then 5 else 0)
def odf (f : Int → Int × (Int → Int)) (c : Int → Int) (used k : Int) (r : Int → Int) : Nat → Int × (Int → Int)
  | 0 => (1000000, r)
  | j + 1 => if (j : Int) ≤ used ∧ (j : Int) < k ∧ c j + (f j).1 < (odf f c used k r j).1 then (c j + (f j).1, (f j).2) else odf f c used k r j
def opt (A : Int → Int → Int) (k : Int) : Nat → Int → Int → (Int → Int) → Int × (Int → Int)
  | 0, _, _, r => (0, r)
  | m + 1, v, used, r => odf (fun d => opt A k m (v + 1) (max used (d + 1)) (updr r v d)) (fun d => pcs A v d r used) used k r 4
def up0 (B : Int) (R : Int → Int) (s : Int) (p : Int × (Int → Int)) : Int × (Int → Int) := if s + p.1 < B then (s + p.1, p.2) else (B, R)
theorem odf_s {f : Int → Int × (Int → Int)} {c : Int → Int} {used k : Int} {r : Int → Int} {x : Int} (h : 0 ≤ x) : odf f c used k r (x + 1).toNat = if x ≤ used ∧ x < k ∧ c x + (f x).1 < (odf f c used k r x.toNat).1 then (c x + (f x).1, (f x).2) else odf f c used k r x.toNat := by
  rw [show (x + 1).toNat = x.toNat + 1 by omega]
  show (if ((x.toNat : Nat) : Int) ≤ used ∧ ((x.toNat : Nat) : Int) < k ∧ c ((x.toNat : Nat) : Int) + (f ((x.toNat : Nat) : Int)).1 < (odf f c used k r x.toNat).1 then (c ((x.toNat : Nat) : Int) + (f ((x.toNat : Nat) : Int)).1, (f ((x.toNat : Nat) : Int)).2) else odf f c used k r x.toNat) = _
  rw [show ((x.toNat : Nat) : Int) = x by omega]
theorem odf_stop {f : Int → Int × (Int → Int)} {c : Int → Int} {used k : Int} {r : Int → Int} {j : Nat} (h : used < j ∨ k ≤ j) : ∀ i : Nat, odf f c used k r (j + i) = odf f c used k r j
  | 0 => rfl
  | i + 1 => by
    show (if ((j + i : Nat) : Int) ≤ used ∧ ((j + i : Nat) : Int) < k ∧ _ then _ else odf f c used k r (j + i)) = _
    rw [if_neg (by omega)]
    exact odf_stop h i
theorem odf_end {f : Int → Int × (Int → Int)} {c : Int → Int} {used k : Int} {r : Int → Int} {x : Int} (h0 : 0 ≤ x) (h4 : x ≤ 4) (h : used < x ∨ k ≤ x) : odf f c used k r x.toNat = odf f c used k r 4 := by
  have := odf_stop (f := f) (c := c) (used := used) (k := k) (r := r) (j := x.toNat) (by omega) (4 - x.toNat)
  rw [show x.toNat + (4 - x.toNat) = 4 by omega] at this
  exact this.symm
theorem odf_lb {f : Int → Int × (Int → Int)} {c : Int → Int} {used k : Int} {r : Int → Int} {X : Int} (hX : X ≤ 1000000) (h : ∀ d, 0 ≤ d → d ≤ used → d < k → X ≤ c d + (f d).1) : ∀ j : Nat, X ≤ (odf f c used k r j).1
  | 0 => hX
  | j + 1 => by
    have ih := odf_lb (r := r) hX h j
    show X ≤ (if (j : Int) ≤ used ∧ (j : Int) < k ∧ c j + (f j).1 < (odf f c used k r j).1 then (c j + (f j).1, (f j).2) else odf f c used k r j).1
    split
    · rename_i q; exact h j (by omega) q.1 q.2.1
    · exact ih
theorem odf_le {f : Int → Int × (Int → Int)} {c : Int → Int} {used k : Int} {r : Int → Int} (h0 : 0 ≤ used) (h1 : 0 < k) : ∀ j : Nat, (odf f c used k r (j + 1)).1 ≤ c 0 + (f 0).1 ∨ (odf f c used k r (j + 1)).1 ≤ 1000000 ∧ (odf f c used k r (j + 1)).1 ≤ c 0 + (f 0).1
  | 0 => by
    show (if ((0 : Nat) : Int) ≤ used ∧ ((0 : Nat) : Int) < k ∧ c ((0 : Nat) : Int) + (f ((0 : Nat) : Int)).1 < 1000000 then (c ((0 : Nat) : Int) + (f ((0 : Nat) : Int)).1, (f ((0 : Nat) : Int)).2) else ((1000000 : Int), r)).1 ≤ _ ∨ _
    left
    split
    · exact Int.le_refl _
    · rename_i q
      show (1000000 : Int) ≤ _
      rcases Int.lt_or_le (c 0 + (f 0).1) 1000000 with y | y
      · exact absurd ⟨h0, h1, y⟩ q
      · exact y
  | j + 1 => by
    left
    have ih : (odf f c used k r (j + 1)).1 ≤ c 0 + (f 0).1 := by rcases odf_le h0 h1 j with q | q; exact q; exact q.2
    show (if ((j + 1 : Nat) : Int) ≤ used ∧ ((j + 1 : Nat) : Int) < k ∧ c ((j + 1 : Nat) : Int) + (f ((j + 1 : Nat) : Int)).1 < (odf f c used k r (j + 1)).1 then (c ((j + 1 : Nat) : Int) + (f ((j + 1 : Nat) : Int)).1, (f ((j + 1 : Nat) : Int)).2) else odf f c used k r (j + 1)).1 ≤ _
    split
    · rename_i q; show c ((j + 1 : Nat) : Int) + (f ((j + 1 : Nat) : Int)).1 ≤ _; omega
    · exact ih
theorem up0_s {f : Int → Int × (Int → Int)} {c : Int → Int} {used k : Int} {r : Int → Int} {x B s : Int} {R : Int → Int} (h : 0 ≤ x) (h1 : x ≤ used) (h2 : x < k) : up0 B R s (odf f c used k r (x + 1).toNat) = up0 (up0 B R s (odf f c used k r x.toNat)).1 (up0 B R s (odf f c used k r x.toNat)).2 (s + c x) (f x) := by
  rw [odf_s h]
  generalize odf f c used k r x.toNat = p
  generalize f x = q
  generalize c x = e
  unfold up0
  by_cases a : e + q.1 < p.1
  · rw [if_pos (show x ≤ used ∧ x < k ∧ e + q.1 < p.1 from ⟨h1, h2, a⟩)]
    by_cases b : s + p.1 < B
    · rw [if_pos b, if_pos (show s + (e + q.1) < B by omega), if_pos (show s + e + q.1 < s + p.1 by omega)]
      show (s + (e + q.1), q.2) = (s + e + q.1, q.2)
      rw [show s + (e + q.1) = s + e + q.1 by omega]
    · rw [if_neg b]
      show (if s + (e + q.1) < B then (s + (e + q.1), q.2) else (B, R)) = (if s + e + q.1 < B then (s + e + q.1, q.2) else (B, R))
      rw [show s + (e + q.1) = s + e + q.1 by omega]
  · rw [if_neg (show ¬ (x ≤ used ∧ x < k ∧ e + q.1 < p.1) from fun y => a y.2.2)]
    by_cases b : s + p.1 < B
    · rw [if_pos b]
      show (s + p.1, p.2) = if s + e + q.1 < s + p.1 then (s + e + q.1, q.2) else (s + p.1, p.2)
      rw [if_neg (by omega)]
    · rw [if_neg b]
      show (B, R) = if s + e + q.1 < B then (s + e + q.1, q.2) else (B, R)
      rw [if_neg (by omega)]
theorem up0_no {B s : Int} {R : Int → Int} {p : Int × (Int → Int)} (h : B ≤ s + p.1) : up0 B R s p = (B, R) := by unfold up0; rw [if_neg (by omega)]
def OD (A : Int → Int → Int) : Prop := ∀ u v, 0 ≤ A u v ∧ A u v ≤ 192
theorem Sc_bd {A : Int → Int → Int} {u d v0 : Int} {r : Int → Int} (O : OD A) (h : 0 ≤ v0) : 0 ≤ Sc A u d r v0 ∧ Sc A u d r v0 ≤ 192 * v0 := su_bd (by omega) h (fun w _ _ => by have := O w u; split <;> omega)
theorem Sc_s {A : Int → Int → Int} {u d v x : Int} {r : Int → Int} (h : 0 ≤ v) : Sc A u d (updr r v x) (v + 1) = Sc A u d r v + if d = x then A v u else 0 := by
  unfold Sc
  rw [su_1 h]
  have : su (fun w => if updr r v x w = d then A w u else 0) v = su (fun w => if r w = d then A w u else 0) v := su_congr (fun w _ w1 => by unfold updr; rw [if_neg (show ¬ w = v by omega)])
  rw [this]
  unfold updr
  rw [if_pos rfl]
  by_cases q : x = d
  · rw [if_pos q, if_pos q.symm]
  · rw [if_neg q, if_neg (fun y => q y.symm)]
theorem opt_0 {A : Int → Int → Int} {k : Int} (O : OD A) : ∀ (m : Nat) (v used : Int) (r : Int → Int), 0 ≤ v → 0 ≤ (opt A k m v used r).1
  | 0, _, _, _, _ => Int.le_refl _
  | m + 1, v, used, r, hv => odf_lb (by omega) (fun d d0 _ _ => by
      have h1 := opt_0 (k := k) O m (v + 1) (max used (d + 1)) (updr r v d) (by omega)
      have h2 := Sc_bd (u := v) (d := d) (r := r) O hv
      show 0 ≤ pcs A v d r used + (opt A k m (v + 1) (max used (d + 1)) (updr r v d)).1
      unfold pcs
      split <;> omega) 4
theorem opt_ub {A : Int → Int → Int} {k : Int} (O : OD A) (hk : 0 < k) : ∀ (m : Nat) (v used : Int) (r : Int → Int), 0 ≤ v → 0 ≤ used → v + m ≤ 10 → (opt A k m v used r).1 ≤ 2000 * m
  | 0, _, _, _, _, _, _ => by show (0 : Int) ≤ _; omega
  | m + 1, v, used, r, hv, hu, hm => by
      have h1 := opt_ub O hk m (v + 1) (max used (0 + 1)) (updr r v 0) (by omega) (by omega) (by omega)
      have h2 := Sc_bd (u := v) (d := 0) (r := r) O hv
      have h3 := odf_le (f := fun d => opt A k m (v + 1) (max used (d + 1)) (updr r v d)) (c := fun d => pcs A v d r used) (used := used) (k := k) (r := r) hu hk 3
      have h4 : (opt A k (m + 1) v used r).1 ≤ pcs A v 0 r used + (opt A k m (v + 1) (max used (0 + 1)) (updr r v 0)).1 := by rcases h3 with q | q; exact q; exact q.2
      have h5 : pcs A v 0 r used ≤ 192 * v + 5 := by unfold pcs; split <;> omega
      omega
/-! what the villages that are left add at least -/
def mnk (g : Int → Int) : Nat → Int
  | 0 => 1000000
  | d + 1 => min (mnk g d) (g d)
def LRs (A : Int → Int → Int) (r : Int → Int) (v0 k : Int) : Nat → Int → Int
  | 0, _ => 0
  | m + 1, u => mnk (fun d => Sc A u d r v0) k.toNat + LRs A r v0 k m (u + 1)
theorem mnk_le {g : Int → Int} {d : Int} (d0 : 0 ≤ d) : ∀ j : Nat, d < j → mnk g j ≤ g d
  | 0, h => by omega
  | j + 1, h => by
    show min (mnk g j) (g j) ≤ g d
    rcases (show d = j ∨ d < j by omega) with q | q
    · rw [q]; omega
    · have := mnk_le (g := g) d0 j q; omega
theorem mnk_mono {g g' : Int → Int} (h : ∀ d, 0 ≤ d → g d ≤ g' d) : ∀ j : Nat, mnk g j ≤ mnk g' j
  | 0 => Int.le_refl _
  | j + 1 => by
    have := mnk_mono h j
    have := h j (by omega)
    show min (mnk g j) (g j) ≤ min (mnk g' j) (g' j)
    omega
theorem mnk_0 {g : Int → Int} (h : ∀ d, 0 ≤ g d) : ∀ j : Nat, 0 ≤ mnk g j ∧ mnk g j ≤ 1000000
  | 0 => by show (0 : Int) ≤ 1000000 ∧ (1000000 : Int) ≤ 1000000; omega
  | j + 1 => by
    have := mnk_0 h j
    have := h j
    show 0 ≤ min (mnk g j) (g j) ∧ min (mnk g j) (g j) ≤ 1000000
    omega
theorem LRs_mono {A : Int → Int → Int} {r : Int → Int} {v x k : Int} (O : OD A) (hv : 0 ≤ v) : ∀ (m : Nat) (u : Int), LRs A r v k m u ≤ LRs A (updr r v x) (v + 1) k m u
  | 0, _ => Int.le_refl _
  | m + 1, u => by
    have h1 := LRs_mono (r := r) (x := x) (k := k) O hv m (u + 1)
    have h2 := mnk_mono (g := fun d => Sc A u d r v) (g' := fun d => Sc A u d (updr r v x) (v + 1)) (fun d _ => by
      show Sc A u d r v ≤ Sc A u d (updr r v x) (v + 1)
      rw [Sc_s hv]
      have := O v u
      split <;> omega) k.toNat
    show mnk (fun d => Sc A u d r v) k.toNat + LRs A r v k m (u + 1) ≤ mnk (fun d => Sc A u d (updr r v x) (v + 1)) k.toNat + LRs A (updr r v x) (v + 1) k m (u + 1)
    omega
theorem LRs_bd {A : Int → Int → Int} {r : Int → Int} {v k : Int} (O : OD A) (hv : 0 ≤ v) (v1 : v ≤ 10) (hk : 0 < k) : ∀ (m : Nat) (u : Int), 0 ≤ LRs A r v k m u ∧ LRs A r v k m u ≤ 1920 * m
  | 0, _ => by show (0 : Int) ≤ 0 ∧ (0 : Int) ≤ 1920 * ((0 : Nat) : Int); omega
  | m + 1, u => by
    have h1 := LRs_bd (r := r) (v := v) (k := k) O hv v1 hk m (u + 1)
    have h2 := mnk_0 (g := fun d => Sc A u d r v) (fun d => (Sc_bd O hv).1) k.toNat
    have h3 := mnk_le (g := fun d => Sc A u d r v) (d := 0) (by omega) k.toNat (by omega)
    have h4 := Sc_bd (u := u) (d := 0) (r := r) O hv
    have h5 : mnk (fun d => Sc A u d r v) k.toNat ≤ 192 * v := by
      have : mnk (fun d => Sc A u d r v) k.toNat ≤ Sc A u 0 r v := h3
      omega
    show 0 ≤ mnk (fun d => Sc A u d r v) k.toNat + LRs A r v k m (u + 1) ∧ mnk (fun d => Sc A u d r v) k.toNat + LRs A r v k m (u + 1) ≤ 1920 * ((m + 1 : Nat) : Int)
    omega
theorem LRs_opt {A : Int → Int → Int} {k : Int} (O : OD A) (hk : 0 < k) : ∀ (m : Nat) (v : Int) (r : Int → Int), 0 ≤ v → v + m ≤ 10 → LRs A r v k m v ≤ (opt A k m v k r).1
  | 0, _, _, _, _ => Int.le_refl _
  | m + 1, v, r, hv, hm => by
    have hb := (LRs_bd (r := r) (v := v) (k := k) O hv (by omega) hk (m + 1) v).2
    refine odf_lb (by omega) (fun d d0 d1 d2 => ?_) 4
    have h1 := LRs_opt O hk m (v + 1) (updr r v d) (by omega) (by omega)
    have h2 := LRs_mono (r := r) (x := d) (k := k) O hv m (v + 1)
    have h3 := mnk_le (g := fun d => Sc A v d r v) (d := d) d0 k.toNat (by omega)
    have h4 : mnk (fun d => Sc A v d r v) k.toNat ≤ Sc A v d r v := h3
    show mnk (fun d => Sc A v d r v) k.toNat + LRs A r v k m (v + 1) ≤ pcs A v d r k + (opt A k m (v + 1) (max k (d + 1)) (updr r v d)).1
    rw [show max k (d + 1) = k by omega]
    unfold pcs
    split <;> omega
/-! the class -/
/-- costs of the villages from v on by the row r up to v -/
def CI (A : Int → Int → Int) (nv : Int) (h : am_H) (r : Int → Int) (v : Int) : Prop := ∀ u e, v ≤ u → u < nv → 0 ≤ e → e < 4 → h 36 (4 * u + e) = Sc A u e r v
def DM (A : Int → Int → Int) (nv : Int) (h : am_H) : Prop := h 33 9 = nv ∧ ∀ u v, 0 ≤ u → u < v → v < nv → h 35 (10 * v + u) = A u v
theorem L_least27 {A : Int → Int → Int} {nv v k x4 u : Int} {r : Int → Int} {h : am_H} {P : Int → am_H → Prop} (O : OD A) (C : CI A nv h r v) (v0 : 0 ≤ v) (nv1 : nv ≤ 10) (u0 : v ≤ u) (u1 : u < nv) (k0 : 0 < k) (k1 : k ≤ 4) (x40 : 0 ≤ x4) (x41 : x4 ≤ 1920 * u) (H : am_x (am_cd 1) 94 (am_qi P) 0 6 [some (.inr (.inr 33)), none, some (.inl k), some (.inl k), some (.inl (x4 + mnk (fun d => Sc A u d r v) k.toNat)), some (.inl (u + 1)), none, none] [] h) : ∀ x7, 0 ≤ x7 → x7 ≤ k → am_x (am_cd 1) 94 (am_qi P) 0 27 [some (.inr (.inr 33)), none, some (.inl k), some (.inl k), some (.inl x4), some (.inl u), some (.inl (mnk (fun d => Sc A u d r v) x7.toNat)), some (.inl x7)] [] h := by
  refine upto k (fun x7 ih a0 a1 => ?_)
  have b := mnk_0 (g := fun d => Sc A u d r v) (fun d => (Sc_bd O v0).1) x7.toNat
  refine g_Dialects_leastRest_27 ⟨fun hc => ⟨⟨by omega, by omega⟩, ?_⟩, fun hc => ⟨⟨by omega, by omega, by omega⟩, by omega, ?_⟩⟩
  · rw [show x7 = k by omega]; exact H
  · have i := ih hc (by omega) (by omega)
    rw [show (x7 + 1).toNat = x7.toNat + 1 by omega] at i
    have e : mnk (fun d => Sc A u d r v) (x7.toNat + 1) = min (mnk (fun d => Sc A u d r v) x7.toNat) (h 36 (4 * u + x7)) := by
      show min (mnk (fun d => Sc A u d r v) x7.toNat) (Sc A u (x7.toNat : Int) r v) = _
      rw [C u x7 u0 u1 a0 (by omega), show ((x7.toNat : Nat) : Int) = x7 by omega]
    rw [e] at i
    exact i
theorem S_leastRest {A : Int → Int → Int} {nv v used k : Int} {r : Int → Int} {h : am_H} {P : Int → am_H → Prop} (O : OD A) (D : DM A nv h) (C : CI A nv h r v) (v0 : 0 ≤ v) (v1 : v ≤ nv) (nv1 : nv ≤ 10) (k0 : 0 < k) (k1 : k ≤ 4) (H : P (if used = k then LRs A r v k (nv - v).toNat v else 0) h) : ∃ a_ h_, am_cd 2 94 [.inr (.inr 33), .inl v, .inl used, .inl k] h (some (.inl a_)) h_ ∧ P a_ h_ := by
  refine e_Dialects_leastRest ?_
  by_cases q : used = k
  · rw [if_pos q] at H
    subst q
    have key : ∀ x5 x4, v ≤ x5 → x5 ≤ nv → 0 ≤ x4 → x4 ≤ 1920 * x5 → x4 + LRs A r v used (nv - x5).toNat x5 = LRs A r v used (nv - v).toNat v → am_x (am_cd 1) 94 (am_qi P) 0 6 [some (.inr (.inr 33)), none, some (.inl used), some (.inl used), some (.inl x4), some (.inl x5), none, none] [] h := by
      refine upto nv (fun x5 ih x4 a0 a1 a2 a3 a4 => ?_)
      refine g_Dialects_leastRest_6 ?_
      rw [D.1]
      refine ⟨fun hc => ?_, fun hc => ⟨fun y => absurd rfl y, fun _ => ?_⟩⟩
      · rw [show (nv - x5).toNat = 0 by omega] at a4
        have : x4 = LRs A r v used (nv - v).toNat v := by
          have z : LRs A r v used 0 x5 = 0 := rfl
          omega
        rw [this]; exact H
      · have e : (nv - x5).toNat = (nv - (x5 + 1)).toNat + 1 := by omega
        rw [e] at a4
        have e2 : LRs A r v used ((nv - (x5 + 1)).toNat + 1) x5 = mnk (fun d => Sc A x5 d r v) used.toNat + LRs A r v used (nv - (x5 + 1)).toNat (x5 + 1) := rfl
        have b := mnk_0 (g := fun d => Sc A x5 d r v) (fun d => (Sc_bd O v0).1) used.toNat
        have h3 : mnk (fun d => Sc A x5 d r v) used.toNat ≤ Sc A x5 0 r v := mnk_le (g := fun d => Sc A x5 d r v) (d := 0) (by omega) used.toNat (by omega)
        have h4 := Sc_bd (u := x5) (d := 0) (r := r) O v0
        exact L_least27 O C v0 nv1 a0 hc k0 k1 a2 a3 (ih hc _ (by omega) (by omega) (by omega) (by omega) (by omega)) 0 (by omega) (by omega)
    exact key v 0 (by omega) v1 (by omega) (by omega) (by omega)
  · rw [if_neg q] at H
    refine g_Dialects_leastRest_6 ⟨fun _ => H, fun _ => ⟨fun _ => H, fun y => absurd y q⟩⟩
theorem L_place {A : Int → Int → Int} {nv v d s : Int} {h0 : am_H} {P : am_H → Prop} (O : OD A) (D : DM A nv h0) (nv1 : nv ≤ 10) (v0 : 0 ≤ v) (d0 : 0 ≤ d) (d1 : d < 4) (hs : s = 1 ∨ s = -1) (hb : ∀ u e, 0 ≤ u → u < nv → 0 ≤ e → e < 4 → -100000 ≤ h0 36 (4 * u + e) ∧ h0 36 (4 * u + e) ≤ 100000) (H : ∀ h, (∀ p, p ≠ 36 → h p = h0 p) → (∀ u e, 0 ≤ u → u < nv → 0 ≤ e → e < 4 → h 36 (4 * u + e) = if v < u ∧ e = d then h0 36 (4 * u + e) + s * A v u else h0 36 (4 * u + e)) → P h) : ∀ x4 h, v + 1 ≤ x4 → (∀ p, p ≠ 36 → h p = h0 p) → (∀ u e, 0 ≤ u → u < nv → 0 ≤ e → e < 4 → h 36 (4 * u + e) = if v < u ∧ u < x4 ∧ e = d then h0 36 (4 * u + e) + s * A v u else h0 36 (4 * u + e)) → am_x (am_cd 0) 19 (am_qv P) 0 5 [some (.inr (.inr 33)), some (.inl v), some (.inl d), some (.inl s), some (.inl x4)] [] h := by
  refine upto nv (fun x4 ih h a0 a2 a3 => ?_)
  refine g_Dialects_place_5 ?_
  rw [a2 33 (by decide), a2 35 (by decide), D.1]
  refine ⟨fun hc => H h a2 (fun u e u0 u1 e0 e1 => ?_), fun hc => ?_⟩
  · rw [a3 u e u0 u1 e0 e1]
    by_cases q : v < u ∧ e = d
    · rw [if_pos q, if_pos ⟨q.1, by omega, q.2⟩]
    · rw [if_neg q, if_neg (fun y => q ⟨y.1, y.2.2⟩)]
  · rw [D.2 v x4 v0 (by omega) hc]
    have ab := O v x4
    have cb := hb x4 d (by omega) hc d0 d1
    have e4 : h 36 (4 * x4 + d) = h0 36 (4 * x4 + d) := by rw [a3 x4 d (by omega) hc d0 d1, if_neg (by omega)]
    have sb : -192 ≤ s * A v x4 ∧ s * A v x4 ≤ 192 := by rcases hs with q | q <;> subst q <;> omega
    rw [e4]
    refine ⟨⟨by omega, by omega, by omega, by omega, by omega, by omega, by omega, by omega, by omega⟩, ih hc _ (by omega) (fun p hp => (up_ne hp).trans (a2 p hp)) (fun u e u0 u1 e0 e1 => ?_)⟩
    rw [up_same]
    by_cases q : 4 * u + e = 4 * x4 + d
    · have q1 : u = x4 := by omega
      have q2 : e = d := by omega
      rw [if_pos q, if_pos (by omega), q1, q2]
    · rw [if_neg q, a3 u e u0 u1 e0 e1]
      by_cases k : v < u ∧ u < x4 ∧ e = d
      · rw [if_pos k, if_pos (by omega)]
      · rw [if_neg k, if_neg (by omega)]
theorem S_place {A : Int → Int → Int} {nv v d s : Int} {h : am_H} {P : am_H → Prop} (O : OD A) (D : DM A nv h) (nv1 : nv ≤ 10) (v0 : 0 ≤ v) (v1 : v < 100) (d0 : 0 ≤ d) (d1 : d < 4) (hs : s = 1 ∨ s = -1) (hb : ∀ u e, 0 ≤ u → u < nv → 0 ≤ e → e < 4 → -100000 ≤ h 36 (4 * u + e) ∧ h 36 (4 * u + e) ≤ 100000) (H : ∀ h1, (∀ p, p ≠ 36 → h1 p = h p) → (∀ u e, 0 ≤ u → u < nv → 0 ≤ e → e < 4 → h1 36 (4 * u + e) = if v < u ∧ e = d then h 36 (4 * u + e) + s * A v u else h 36 (4 * u + e)) → P h1) : ∃ h_, am_cd 1 19 [.inr (.inr 33), .inl v, .inl d, .inl s] h none h_ ∧ P h_ :=
  e_Dialects_place ⟨by omega, L_place O D nv1 v0 d0 d1 hs hb H (v + 1) h (by omega) (fun _ _ => rfl) (fun u e u0 u1 e0 e1 => by rw [if_neg (by omega)])⟩
def pF (nv v : Int) (h0 h : am_H) : Prop := (∀ p, p ≠ 33 → p ≠ 36 → p ≠ 37 → p ≠ 38 → h p = h0 p) ∧ (∀ j, j ≠ 8 → h 33 j = h0 33 j) ∧ (∀ u e, 0 ≤ u → u < nv → 0 ≤ e → e < 4 → h 36 (4 * u + e) = h0 36 (4 * u + e)) ∧ (∀ u, u < v → h 37 u = h0 37 u)
theorem S_part {A : Int → Int → Int} {nv k : Int} (O : OD A) (nv1 : nv ≤ 10) (k0 : 0 < k) (k1 : k ≤ 4) : ∀ (m n : Nat) (v used sum B : Int) (r R : Int → Int) (h : am_H) (P : am_H → Prop), m ≤ n → v + m = nv → 0 ≤ v → 0 ≤ used → used ≤ k → 0 ≤ sum → sum ≤ 2000 * v → DM A nv h → CI A nv h r v → (∀ u e, 0 ≤ u → u < nv → 0 ≤ e → e < 4 → 0 ≤ h 36 (4 * u + e) ∧ h 36 (4 * u + e) ≤ 1920) → (∀ u, 0 ≤ u → u < v → h 37 u = r u) → h 33 8 = B → B ≤ 1000000 → (∀ u, 0 ≤ u → u < nv → h 38 u = R u) → (∀ h1, pF nv v h h1 → h1 33 8 = (up0 B R sum (opt A k m v used r)).1 → (∀ u, 0 ≤ u → u < nv → h1 38 u = (up0 B R sum (opt A k m v used r)).2 u) → P h1) → ∃ h_, am_cd (n + 3) 141 [.inr (.inr 33), .inl v, .inl used, .inl sum, .inl k] h none h_ ∧ P h_
  | 0, n, v, used, sum, B, r, R, h, P, hn, hm, v0, us0, us1, s0, s1, D, C, cb, hr, hB, hB1, hR, H => by
    refine e_Dialects_part (am_lifti (by omega) (S_leastRest O D C v0 (by omega) nv1 k0 k1 ?_))
    have z : (if used = k then LRs A r v k (nv - v).toNat v else 0) = 0 := by
      rw [show (nv - v).toNat = 0 by omega]
      show (if used = k then (0 : Int) else 0) = 0
      split <;> rfl
    rw [z, hB, D.1]
    have o : opt A k 0 v used r = (0, r) := rfl
    refine ⟨by omega, fun c => ⟨fun c2 => by omega, fun _ => ⟨by omega, ?_⟩⟩, fun c => ?_⟩
    · have u0 : up0 B R sum (opt A k 0 v used r) = (sum, r) := by rw [o]; unfold up0; rw [if_pos (show sum + 0 < B by omega), show sum + 0 = sum by omega]
      rw [u0] at H
      refine H _ ⟨fun p p1 p2 p3 p4 => by rw [cp_ne p4, up_ne p1], fun j hj => by rw [cp_ne (by decide), up_same, if_neg hj], fun u e _ _ _ _ => by rw [cp_ne (by decide), up_ne (by decide)], fun u _ => by rw [cp_ne (by decide), up_ne (by decide)]⟩ ?_ (fun u u0 u1 => ?_)
      · rw [cp_ne (by decide), up_same, if_pos rfl]
      · rw [cp_same, if_pos (by omega), up_ne (by decide), show 0 + (u - 0) = u by omega]
        exact hr u u0 (by omega)
    · have u0 : up0 B R sum (opt A k 0 v used r) = (B, R) := by rw [o]; exact up0_no (show B ≤ sum + 0 by omega)
      rw [u0] at H
      exact H h ⟨fun _ _ _ _ _ => rfl, fun _ _ => rfl, fun _ _ _ _ _ _ => rfl, fun _ _ => rfl⟩ hB hR
  | m + 1, n, v, used, sum, B, r, R, h, P, hn, hm, v0, us0, us1, s0, s1, D, C, cb, hr, hB, hB1, hR, H => by
    obtain ⟨n', rfl⟩ : ∃ n', n = n' + 1 := ⟨n - 1, by omega⟩
    refine e_Dialects_part (am_lifti (by omega) (S_leastRest O D C v0 (by omega) nv1 k0 k1 ?_))
    have lrb := LRs_bd (r := r) (v := v) (k := k) O v0 (by omega) k0 (nv - v).toNat v
    have lb : (if used = k then LRs A r v k (nv - v).toNat v else 0) ≤ (opt A k (m + 1) v used r).1 ∧ 0 ≤ (if used = k then LRs A r v k (nv - v).toNat v else 0) ∧ (if used = k then LRs A r v k (nv - v).toNat v else 0) ≤ 19200 := by
      by_cases q : used = k
      · subst q
        rw [if_pos rfl, show (nv - v).toNat = m + 1 by omega] at *
        exact ⟨LRs_opt O k0 (m + 1) v r v0 (by omega), by omega, by omega⟩
      · rw [if_neg q]
        exact ⟨opt_0 O _ _ _ _ v0, by omega, by omega⟩
    generalize (if used = k then LRs A r v k (nv - v).toNat v else 0) = lr at lb ⊢
    rw [hB, D.1]
    refine ⟨by omega, fun c => ⟨fun _ => ?_, fun c2 => by omega⟩, fun c => ?_⟩
    · have oe : opt A k (m + 1) v used r = odf (fun d => opt A k m (v + 1) (max used (d + 1)) (updr r v d)) (fun d => pcs A v d r used) used k r 4 := rfl
      rw [oe] at H
      generalize hf : (fun d => opt A k m (v + 1) (max used (d + 1)) (updr r v d)) = f at H
      generalize hc : (fun d => pcs A v d r used) = cc at H
      have key : ∀ x5 h', 0 ≤ x5 → x5 ≤ 4 → pF nv v h h' → h' 33 8 = (up0 B R sum (odf f cc used k r x5.toNat)).1 → (∀ u, 0 ≤ u → u < nv → h' 38 u = (up0 B R sum (odf f cc used k r x5.toNat)).2 u) → am_x (am_cd (n' + 1 + 2)) 141 (am_qv P) 0 53 [some (.inr (.inr 33)), some (.inl v), some (.inl used), some (.inl sum), some (.inl k), some (.inl x5), none] [] h' := by
        refine upto 4 (fun x5 ih h' a0 a1 p b1 b2 => ?_)
        have D' : DM A nv h' := ⟨by rw [p.2.1 9 (by decide)]; exact D.1, fun u w u0 u1 w1 => by rw [p.1 35 (by decide) (by decide) (by decide) (by decide)]; exact D.2 u w u0 u1 w1⟩
        have C' : CI A nv h' r v := fun u e u0 u1 e0 e1 => by rw [p.2.2.1 u e (by omega) u1 e0 e1]; exact C u e u0 u1 e0 e1
        have cb' : ∀ u e, 0 ≤ u → u < nv → 0 ≤ e → e < 4 → 0 ≤ h' 36 (4 * u + e) ∧ h' 36 (4 * u + e) ≤ 1920 := fun u e u0 u1 e0 e1 => by rw [p.2.2.1 u e u0 u1 e0 e1]; exact cb u e u0 u1 e0 e1
        have r' : ∀ u, 0 ≤ u → u < v → h' 37 u = r u := fun u u0 u1 => by rw [p.2.2.2 u u1]; exact hr u u0 u1
        have Bb : (up0 B R sum (odf f cc used k r x5.toNat)).1 ≤ 1000000 := by
          unfold up0
          split
          · show sum + _ ≤ 1000000; omega
          · exact hB1
        refine g_Dialects_part_53 ⟨fun c1 => H h' p ?_ ?_, fun c1 => ⟨fun c2 => H h' p ?_ ?_, fun c2 => ?_⟩⟩
        · rw [odf_end a0 a1 (.inl c1)] at b1; exact b1
        · rw [odf_end a0 a1 (.inl c1)] at b2; exact b2
        · rw [odf_end a0 a1 (.inr c2)] at b1; exact b1
        · rw [odf_end a0 a1 (.inr c2)] at b2; exact b2
        · have us := up0_s (f := f) (c := cc) (r := r) (B := B) (R := R) (s := sum) a0 c1 c2
          have i := fun h'' p' w1 w2 => ih (by omega) h'' (by omega) (by omega) p' w1 w2
          rw [us] at i
          generalize up0 B R sum (odf f cc used k r x5.toNat) = BR at i b1 b2 Bb
          have ce := C' v x5 (by omega) (by omega) a0 (by omega)
          have sb := Sc_bd (u := v) (d := x5) (r := r) O v0
          rw [ce, b1]
          have f0 : 0 ≤ (f x5).1 := by rw [← hf]; exact opt_0 O _ _ _ _ (by omega)
          have go : ∀ y, cc x5 = Sc A v x5 r v + y → (y = 0 ∨ y = 5) → am_ok (Sc A v x5 r v + y) ∧ (am_ok (sum + (Sc A v x5 r v + y)) ∧ ((BR.1 ≤ sum + (Sc A v x5 r v + y) → (am_ok (x5 + 1) ∧ am_x (am_cd (n' + 1 + 2)) 141 (am_qv P) 0 53 [some (.inr (.inr 33)), some (.inl v), some (.inl used), some (.inl sum), some (.inl k), some (.inl (x5 + 1)), none] [] h')) ∧ (sum + (Sc A v x5 r v + y) < BR.1 → ((0 ≤ v ∧ v < 10) ∧ (∃ h12, am_cd (n' + 1 + 2) 19 [.inr (.inr 33), .inl v, .inl x5, .inl 1] (am_up h' 37 v x5) none h12 ∧ ((am_ok (v + 1) ∧ am_ok (x5 + 1)) ∧ (∃ h16, am_cd (n' + 1 + 2) 141 [.inr (.inr 33), .inl (v + 1), .inl (max used (x5 + 1)), .inl (sum + (Sc A v x5 r v + y)), .inl k] h12 none h16 ∧ (∃ h18, am_cd (n' + 1 + 2) 19 [.inr (.inr 33), .inl v, .inl x5, .inl (-1)] h16 none h18 ∧ am_x (am_cd (n' + 1 + 2)) 141 (am_qv P) 0 53 [some (.inr (.inr 33)), some (.inl v), some (.inl used), some (.inl sum), some (.inl k), some (.inl (x5 + 1)), none] [] h18)))))))) := by
            intro y ey hy
            have yb : 0 ≤ y ∧ y ≤ 5 := by omega
            refine ⟨by omega, by omega, fun c3 => ⟨by omega, i h' p ?_ ?_⟩, fun c3 => ⟨by omega, ?_⟩⟩
            · rw [up0_no (by omega)]; exact b1
            · rw [up0_no (by omega)]; exact b2
            · have g1 : ∀ q, q ≠ 37 → am_up h' 37 v x5 q = h' q := fun q hq => up_ne hq
              have D1 : DM A nv (am_up h' 37 v x5) := ⟨by rw [g1 33 (by decide)]; exact D'.1, fun u w u0 u1 w1 => by rw [g1 35 (by decide)]; exact D'.2 u w u0 u1 w1⟩
              refine am_liftv (by omega) (S_place O D1 nv1 v0 (by omega) a0 (by omega) (.inl rfl) (fun u e u0 u1 e0 e1 => by rw [g1 36 (by decide)]; have := cb' u e u0 u1 e0 e1; omega) (fun h2 k1' k2 => ⟨⟨by omega, by omega⟩, ?_⟩))
              have D2 : DM A nv h2 := ⟨by rw [k1' 33 (by decide)]; exact D1.1, fun u w u0 u1 w1 => by rw [k1' 35 (by decide)]; exact D1.2 u w u0 u1 w1⟩
              have C2 : CI A nv h2 (updr r v x5) (v + 1) := fun u e u0 u1 e0 e1 => by
                rw [k2 u e (by omega) u1 e0 e1, Sc_s v0, g1 36 (by decide), C' u e (by omega) u1 e0 e1]
                by_cases q : e = x5
                · rw [if_pos ⟨by omega, q⟩, if_pos q]; omega
                · rw [if_neg (fun z => q z.2), if_neg q]; omega
              have cb2 : ∀ u e, 0 ≤ u → u < nv → 0 ≤ e → e < 4 → 0 ≤ h2 36 (4 * u + e) ∧ h2 36 (4 * u + e) ≤ 1920 := fun u e u0 u1 e0 e1 => by
                by_cases q : v + 1 ≤ u
                · rw [C2 u e q u1 e0 e1]
                  have := Sc_bd (u := u) (d := e) (r := updr r v x5) O (show 0 ≤ v + 1 by omega)
                  omega
                · rw [k2 u e u0 u1 e0 e1, if_neg (by omega), g1 36 (by decide)]; exact cb' u e u0 u1 e0 e1
              have e37 : ∀ u, h2 37 u = if u = v then x5 else h' 37 u := fun u => by rw [k1' 37 (by decide), up_same]
              have r2 : ∀ u, 0 ≤ u → u < v + 1 → h2 37 u = updr r v x5 u := fun u u0 u1 => by
                rw [e37 u]
                unfold updr
                by_cases q : u = v
                · rw [if_pos q, if_pos q]
                · rw [if_neg q, if_neg q]; exact r' u u0 (by omega)
              have B2 : h2 33 8 = BR.1 := by rw [k1' 33 (by decide), g1 33 (by decide)]; exact b1
              have R2 : ∀ u, 0 ≤ u → u < nv → h2 38 u = BR.2 u := fun u u0 u1 => by rw [k1' 38 (by decide), g1 38 (by decide)]; exact b2 u u0 u1
              refine am_liftv (by omega) (S_part O nv1 k0 k1 m n' (v + 1) (max used (x5 + 1)) (sum + (Sc A v x5 r v + y)) BR.1 (updr r v x5) BR.2 h2 _ (by omega) (by omega) (by omega) (by omega) (by omega) (by omega) (by omega) D2 C2 cb2 r2 B2 Bb R2 (fun h3 p3 w1 w2 => ?_))
              · have D3 : DM A nv h3 := ⟨by rw [p3.2.1 9 (by decide)]; exact D2.1, fun u w u0 u1 w1 => by rw [p3.1 35 (by decide) (by decide) (by decide) (by decide)]; exact D2.2 u w u0 u1 w1⟩
                refine am_liftv (by omega) (S_place O D3 nv1 v0 (by omega) a0 (by omega) (.inr rfl) (fun u e u0 u1 e0 e1 => by rw [p3.2.2.1 u e u0 u1 e0 e1]; have := cb2 u e u0 u1 e0 e1; omega) (fun h4 k3 k4 => i h4 ⟨fun q q1 q2 q3 q4 => ?_, fun j hj => ?_, fun u e u0 u1 e0 e1 => ?_, fun u u1 => ?_⟩ ?_ ?_))
                · rw [k3 q q2, p3.1 q q1 q2 q3 q4, k1' q q2, g1 q q3]; exact p.1 q q1 q2 q3 q4
                · rw [k3 33 (by decide), p3.2.1 j hj, k1' 33 (by decide), g1 33 (by decide)]; exact p.2.1 j hj
                · rw [k4 u e u0 u1 e0 e1, p3.2.2.1 u e u0 u1 e0 e1, k2 u e u0 u1 e0 e1, g1 36 (by decide), ← p.2.2.1 u e u0 u1 e0 e1]
                  by_cases q : v < u ∧ e = x5
                  · rw [if_pos q, if_pos q]; omega
                  · rw [if_neg q, if_neg q]
                · rw [k3 37 (by decide), p3.2.2.2 u (by omega), e37 u, if_neg (by omega)]; exact p.2.2.2 u u1
                · rw [k3 33 (by decide), w1, ey, ← hf]
                · intro u u0 u1
                  rw [k3 38 (by decide), w2 u u0 u1, ey, ← hf]
          refine ⟨⟨by omega, by omega, by omega⟩, fun c3 => go 0 ?_ (.inl rfl), fun c3 => go 5 ?_ (.inr rfl)⟩
          · rw [← hc]; show pcs A v x5 r used = _; unfold pcs; rw [if_neg c3]
          · rw [← hc]; show pcs A v x5 r used = _; unfold pcs; rw [if_pos c3]
      refine key 0 h (by omega) (by omega) ⟨fun _ _ _ _ _ => rfl, fun _ _ => rfl, fun _ _ _ _ _ _ => rfl, fun _ _ => rfl⟩ ?_ ?_
      · have : up0 B R sum (odf f cc used k r (0 : Int).toNat) = (B, R) := up0_no (show B ≤ sum + 1000000 by omega)
        rw [this]; exact hB
      · have : up0 B R sum (odf f cc used k r (0 : Int).toNat) = (B, R) := up0_no (show B ≤ sum + 1000000 by omega)
        rw [this]; exact hR
    · rw [up0_no (by omega)] at H
      exact H h ⟨fun _ _ _ _ _ => rfl, fun _ _ => rfl, fun _ _ _ _ _ _ => rfl, fun _ _ => rfl⟩ hB hR
