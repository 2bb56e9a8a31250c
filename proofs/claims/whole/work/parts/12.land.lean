/-! Land -/
def OL (N : Int → Int) : Prop := (0 ≤ N 0 ∧ N 0 ≤ 12) ∧ (∀ v, 0 ≤ v → v < N 0 → (0 ≤ N (10 + 3 * v) ∧ N (10 + 3 * v) ≤ 99) ∧ (0 ≤ N (11 + 3 * v) ∧ N (11 + 3 * v) ≤ 99) ∧ (1 ≤ N (12 + 3 * v) ∧ N (12 + 3 * v) ≤ 999)) ∧ (∀ a b, 0 ≤ a → a < 12 → 0 ≤ b → b < 12 → (0 ≤ N (46 + 12 * a + b) ∧ N (46 + 12 * a + b) ≤ 99) ∧ N (46 + 12 * a + b) = N (46 + 12 * b + a) ∧ (0 < N (46 + 12 * a + b) → a < N 0 ∧ b < N 0 ∧ a ≠ b))
def LR (h : am_H) (N : Int → Int) : Prop := h 1 0 = N 0 ∧ (∀ v, 0 ≤ v → v < N 0 → h 2 v = N (10 + 3 * v) ∧ h 3 v = N (11 + 3 * v) ∧ h 4 v = N (12 + 3 * v)) ∧ (∀ a b, 0 ≤ a → a < 12 → 0 ≤ b → b < 12 → h 5 (12 * a + b) = N (46 + 12 * a + b))
theorem LR_of {h h1 : am_H} {N : Int → Int} (e1 : h1 1 = h 1) (e2 : h1 2 = h 2) (e3 : h1 3 = h 3) (e4 : h1 4 = h 4) (e5 : h1 5 = h 5) (H : LR h N) : LR h1 N := by
  unfold LR
  rw [e1, e2, e3, e4, e5]; exact H
/-- all folk of a set -/
def fo (N : Int → Int) (s n : Int) : Int := su (fun v => if tb s v then N (12 + 3 * v) else 0) n
theorem fo_bd {N : Int → Int} {s n : Int} (O : OL N) (h0 : 0 ≤ n) (h1 : n ≤ N 0) : 0 ≤ fo N s n ∧ fo N s n ≤ 999 * n := by
  refine su_bd (by omega) h0 (fun x x0 x1 => ?_)
  have := (O.2.1 x x0 (by omega)).2.2
  split <;> omega
theorem L_folkOf {h : am_H} {N : Int → Int} {set : Int} {P : Int → am_H → Prop} (O : OL N) (R : LR h N) (H : P (fo N set (N 0)) h) : ∀ x3 x2, 0 ≤ x3 → x3 ≤ N 0 → x2 = fo N set x3 → am_x (am_cd 0) 44 (am_qi P) 0 4 [some (.inr (.inr 1)), some (.inl set), some (.inl x2), some (.inl x3)] [] h := by
  have R0 := R.1
  refine upto (N 0) (fun x3 ih x2 h0 h1 h2 => ?_)
  have b1 := fo_bd (s := set) O h0 h1
  have hN := O.1
  refine g_Land_folkOf_4 ⟨fun hc => ?_, fun hc => ⟨fun hb => ⟨by omega, ih (by omega) _ (by omega) (by omega) ?_⟩, fun hb => ?_⟩⟩
  · rw [h2, show x3 = N 0 by omega]; exact H
  · unfold fo; rw [su_1 h0, if_neg (by simpa using hb)]; unfold fo at h2; omega
  · have r := (R.2.1 x3 h0 (by omega)).2.2
    have b2 := (O.2.1 x3 h0 (by omega)).2.2
    refine ⟨⟨by omega, by omega, by omega⟩, ih (by omega) _ (by omega) (by omega) ?_⟩
    unfold fo; rw [su_1 h0, if_pos hb]; unfold fo at h2; omega
theorem S_folkOf {h : am_H} {N : Int → Int} {set : Int} {P : Int → am_H → Prop} (O : OL N) (R : LR h N) (H : P (fo N set (N 0)) h) : ∃ a_ h_, am_cd 1 44 [.inr (.inr 1), .inl set] h (some (.inl a_)) h_ ∧ P a_ h_ :=
  e_Land_folkOf (L_folkOf O R H 0 0 (by omega) O.1.1 (su_0 (by omega)).symm)
/-- the village with the least walk -/
def nr (N : Int → Int) (s : Int) (W : Int → Int) (r : Int) : Prop := (r = -1 ∧ ∀ v, 0 ≤ v → v < N 0 → tb s v → 1000000 ≤ W v) ∨ (0 ≤ r ∧ r < N 0 ∧ tb s r ∧ W r < 1000000 ∧ ∀ v, 0 ≤ v → v < N 0 → tb s v → W r ≤ W v)
theorem L_nearest {h : am_H} {N : Int → Int} {s : Int} {P : Int → am_H → Prop} (O : OL N) (R : LR h N) (H : ∀ r, nr N s (h 6) r → P r h) : ∀ x4 x2 x3, 0 ≤ x4 → x4 ≤ N 0 → ((x2 = -1 ∧ x3 = 1000000 ∧ ∀ v, 0 ≤ v → v < x4 → tb s v → 1000000 ≤ h 6 v) ∨ (0 ≤ x2 ∧ x2 < x4 ∧ tb s x2 ∧ h 6 x2 < 1000000 ∧ x3 = h 6 x2 ∧ ∀ v, 0 ≤ v → v < x4 → tb s v → h 6 x2 ≤ h 6 v)) → am_x (am_cd 0) 48 (am_qi P) 0 8 [some (.inr (.inr 1)), some (.inl s), some (.inl x2), some (.inl x3), some (.inl x4)] [] h := by
  have R0 := R.1
  have hN := O.1
  refine upto (N 0) (fun x4 ih x2 x3 h0 h1 h2 => ?_)
  refine g_Land_nearest_8 ⟨fun hc => ?_, fun hc => ⟨fun hb => ⟨by omega, ih (by omega) _ _ (by omega) (by omega) ?_⟩, fun hb => ⟨by omega, fun hd => ⟨by omega, ih (by omega) _ _ (by omega) (by omega) ?_⟩, fun hd => ⟨by omega, ih (by omega) _ _ (by omega) (by omega) ?_⟩⟩⟩⟩
  · have e : x4 = N 0 := by omega
    subst e
    apply H
    rcases h2 with ⟨a, b, c⟩ | ⟨a, b, c, d, e, f⟩
    · exact .inl ⟨a, c⟩
    · exact .inr ⟨a, b, c, d, f⟩
  · rcases h2 with ⟨a, b, c⟩ | ⟨a, b, c, d, e, f⟩
    · exact .inl ⟨a, b, fun v v0 v1 v2 => c v v0 (by rcases (show v < x4 ∨ v = x4 by omega) with q | q; exact q; subst q; exact absurd hb v2) v2⟩
    · exact .inr ⟨a, by omega, c, d, e, fun v v0 v1 v2 => f v v0 (by rcases (show v < x4 ∨ v = x4 by omega) with q | q; exact q; subst q; exact absurd hb v2) v2⟩
  · rcases h2 with ⟨a, b, c⟩ | ⟨a, b, c, d, e, f⟩
    · exact .inl ⟨a, b, fun v v0 v1 v2 => by rcases (show v < x4 ∨ v = x4 by omega) with q | q; exact c v v0 q v2; subst q; omega⟩
    · exact .inr ⟨a, by omega, c, d, e, fun v v0 v1 v2 => by rcases (show v < x4 ∨ v = x4 by omega) with q | q; exact f v v0 q v2; subst q; omega⟩
  · refine .inr ⟨h0, by omega, hb, ?_, rfl, fun v v0 v1 v2 => ?_⟩
    · rcases h2 with ⟨a, b, c⟩ | ⟨a, b, c, d, e, f⟩ <;> omega
    · rcases (show v < x4 ∨ v = x4 by omega) with q | q
      · rcases h2 with ⟨a, b, c⟩ | ⟨a, b, c, d, e, f⟩
        · have := c v v0 q v2; omega
        · have := f v v0 q v2; omega
      · subst q; omega
theorem S_nearest {h : am_H} {N : Int → Int} {s : Int} {P : Int → am_H → Prop} (O : OL N) (R : LR h N) (H : ∀ r, nr N s (h 6) r → P r h) : ∃ a_ h_, am_cd 1 48 [.inr (.inr 1), .inl s] h (some (.inl a_)) h_ ∧ P a_ h_ :=
  e_Land_nearest (L_nearest O R H 0 (-1) 1000000 (by omega) O.1.1 (.inl ⟨rfl, rfl, fun v _ _ => by omega⟩))
/-- one village's roads are gone along -/
def gn (N : Int → Int) (f : Int) (W : Int → Int) (v : Int) : Int := if 0 < N (46 + 12 * f + v) then min (W v) (W f + N (46 + 12 * f + v)) else W v
theorem L_goOn {h0 : am_H} {N : Int → Int} {f : Int} {P : am_H → Prop} (O : OL N) (f0 : 0 ≤ f) (f1 : f < N 0) (hW : ∀ v, 0 ≤ v → v < N 0 → 0 ≤ h0 6 v ∧ h0 6 v ≤ 1000000) (H : ∀ h1, (∀ p, p ≠ 6 → h1 p = h0 p) → (∀ v, 0 ≤ v → v < N 0 → h1 6 v = gn N f (h0 6) v) → P h1) : ∀ x2 h, LR h N → 0 ≤ x2 → x2 ≤ N 0 → (∀ p, p ≠ 6 → h p = h0 p) → (∀ v, 0 ≤ v → v < N 0 → h 6 v = if v < x2 then gn N f (h0 6) v else h0 6 v) → am_x (am_cd 2) 146 (am_qv P) 0 2 [some (.inr (.inr 1)), some (.inl f), some (.inl x2), none] [] h := by
  have hN := O.1
  refine upto (N 0) (fun x2 ih h R a0 a1 a2 a3 => ?_)
  have R0 := R.1
  refine g_Land_goOn_2 ⟨fun hc => ?_, fun hc => ?_⟩
  · exact H h a2 (fun v v0 v1 => by rw [a3 v v0 v1, if_pos (by omega)])
  · have r := R.2.2 f x2 f0 (by omega) a0 (by omega)
    have o := O.2.2 f x2 f0 (by omega) a0 (by omega)
    have w2 : h 6 x2 = h0 6 x2 := by rw [a3 x2 a0 (by omega), if_neg (by omega)]
    have wf : h 6 f = h0 6 f := by
      rw [a3 f f0 f1]
      split
      · unfold gn
        have o := (O.2.2 f f f0 (by omega) f0 (by omega)).2.2
        rw [if_neg (by intro q; exact (o q).2.2 rfl)]
      · rfl
    have b1 := hW f f0 f1
    have b2 := hW x2 a0 (by omega)
    refine ⟨⟨by omega, by omega⟩, by omega, fun hd => ⟨by omega, ih (by omega) _ R (by omega) (by omega) a2 (fun v v0 v1 => ?_)⟩, fun hd => ⟨⟨by omega, by omega, by omega⟩, by omega, ih (by omega) _ ?_ (by omega) (by omega) (fun p hp => (up_ne hp).trans (a2 p hp)) (fun v v0 v1 => ?_)⟩⟩
    · rw [a3 v v0 v1]
      by_cases q : v = x2
      · subst q
        rw [if_neg (by omega), if_pos (by omega)]
        unfold gn
        rw [if_neg (by omega)]
      · by_cases q2 : v < x2
        · rw [if_pos q2, if_pos (by omega)]
        · rw [if_neg q2, if_neg (by omega)]
    · exact LR_of (up_ne (by decide)) (up_ne (by decide)) (up_ne (by decide)) (up_ne (by decide)) (up_ne (by decide)) R
    · rw [up_same]
      by_cases q : v = x2
      · subst q
        rw [if_pos rfl, if_pos (by omega)]
        unfold gn
        rw [if_pos (by omega), w2, wf, r]
      · rw [if_neg q, a3 v v0 v1]
        by_cases q2 : v < x2
        · rw [if_pos q2, if_pos (by omega)]
        · rw [if_neg q2, if_neg (by omega)]
theorem S_goOn {h : am_H} {N : Int → Int} {f : Int} {P : am_H → Prop} (O : OL N) (R : LR h N) (f0 : 0 ≤ f) (f1 : f < N 0) (hW : ∀ v, 0 ≤ v → v < N 0 → 0 ≤ h 6 v ∧ h 6 v ≤ 1000000) (H : ∀ h1, (∀ p, p ≠ 6 → h1 p = h p) → (∀ v, 0 ≤ v → v < N 0 → h1 6 v = gn N f (h 6) v) → P h1) : ∃ h_, am_cd 3 146 [.inr (.inr 1), .inl f] h none h_ ∧ P h_ :=
  e_Land_goOn (L_goOn O f0 f1 hW H 0 h R (by omega) O.1.1 (fun _ _ => rfl) (fun v v0 v1 => by rw [if_neg (by omega)]))
/-- walks from the nearest one of a set -/
def isW (N : Int → Int) (s : Int) (W : Int → Int) : Prop :=
  (∀ v, 0 ≤ v → v < N 0 → 0 ≤ W v ∧ (W v = 1000000 ∨ W v ≤ 1188)) ∧ (∀ v, 0 ≤ v → v < N 0 → tb s v → W v = 0) ∧ (∀ u v, 0 ≤ u → u < N 0 → 0 ≤ v → v < N 0 → 0 < N (46 + 12 * u + v) → W v ≤ W u + N (46 + 12 * u + v)) ∧ (∀ v, 0 ≤ v → v < N 0 → W v < 1000000 → tb s v ∨ ∃ u, 0 ≤ u ∧ u < N 0 ∧ 0 < N (46 + 12 * u + v) ∧ W v = W u + N (46 + 12 * u + v))
theorem isW_le {N : Int → Int} {s : Int} {W W' : Int → Int} (A : isW N s W) (B : isW N s W') : ∀ v, 0 ≤ v → v < N 0 → W' v ≤ W v := by
  refine measured (fun v => (W v).toNat) (fun v ih h0 h1 => ?_)
  have a := A.1 v h0 h1
  have b := B.1 v h0 h1
  by_cases q : W v < 1000000
  · rcases A.2.2.2 v h0 h1 q with t | ⟨u, u0, u1, u2, u3⟩
    · rw [B.2.1 v h0 h1 t]; omega
    · have a' := A.1 u u0 u1
      have := ih u (by show (W u).toNat < (W v).toNat; omega) u0 u1
      have := B.2.2.1 u v u0 u1 h0 h1 u2
      omega
  · omega
theorem isW_eq {N : Int → Int} {s : Int} {W W' : Int → Int} (A : isW N s W) (B : isW N s W') {v : Int} (h0 : 0 ≤ v) (h1 : v < N 0) : W' v = W v := by
  have := isW_le A B v h0 h1
  have := isW_le B A v h0 h1
  omega
theorem cn_0 {s n : Int} (h : cn s n = 0) (v : Int) (h0 : 0 ≤ v) (h1 : v < n) : ¬ tb s v := by
  intro q
  have e := su_upd (f := fun v => if tb s v then 1 else 0) (g := fun x => if x = v then 0 else if tb s x then 1 else 0) (n := n) h0 h1 (fun x _ _ q => by simp [q])
  have := (su_bd (f := fun x => if x = v then 0 else if tb s x then 1 else 0) (B := 1) (n := n) (by omega) (by omega) (fun x _ _ => by split; omega; split <;> omega)).1
  unfold cn at h
  simp only [q, if_true] at e
  omega
def dJ (N : Int → Int) (s : Int) (W : Int → Int) (o t : Int) : Prop :=
  (∀ v, 0 ≤ v → v < N 0 → 0 ≤ W v ∧ (W v = 1000000 ∨ W v ≤ 99 * t)) ∧ (∀ v, 0 ≤ v → v < N 0 → tb s v → W v = 0) ∧ (∀ u v, 0 ≤ u → u < N 0 → 0 ≤ v → v < N 0 → ¬ tb o u → 0 < N (46 + 12 * u + v) → W v ≤ W u + N (46 + 12 * u + v)) ∧ (∀ u v, 0 ≤ u → u < N 0 → 0 ≤ v → v < N 0 → ¬ tb o u → tb o v → W u ≤ W v) ∧ (∀ v, 0 ≤ v → v < N 0 → W v < 1000000 → tb s v ∨ ∃ u, 0 ≤ u ∧ u < N 0 ∧ ¬ tb o u ∧ 0 < N (46 + 12 * u + v) ∧ W v = W u + N (46 + 12 * u + v)) ∧ cn o (N 0) = N 0 - t
theorem dJ_end {N : Int → Int} {s : Int} {W : Int → Int} {o t : Int} (O : OL N) (J : dJ N s W o t) (ht : t ≤ 12) (h : ∀ v, 0 ≤ v → v < N 0 → tb o v → 1000000 ≤ W v) : isW N s W := by
  obtain ⟨a, b, c, d, e, f⟩ := J
  refine ⟨fun v v0 v1 => by have := a v v0 v1; omega, b, fun u v u0 u1 v0 v1 q => ?_, fun v v0 v1 q => ?_⟩
  · by_cases k : tb o u
    · have := h u u0 u1 k
      have := a u u0 u1
      have := a v v0 v1
      omega
    · exact c u v u0 u1 v0 v1 k q
  · rcases e v v0 v1 q with k | ⟨u, u0, u1, -, u3, u4⟩
    · exact .inl k
    · exact .inr ⟨u, u0, u1, u3, u4⟩
theorem dJ_step {N : Int → Int} {s : Int} {W W' : Int → Int} {o t r : Int} (O : OL N) (J : dJ N s W o t) (t0 : 0 ≤ t) (r0 : 0 ≤ r) (r1 : r < N 0) (r2 : tb o r) (r3 : W r < 1000000) (r4 : ∀ v, 0 ≤ v → v < N 0 → tb o v → W r ≤ W v) (hW : ∀ v, 0 ≤ v → v < N 0 → W' v = gn N r W v) : dJ N s W' (am_and o (am_xor (am_shl 1 r) (-1))) (t + 1) := by
  have hN := O.1
  have ho : ∀ v, 0 ≤ v → v < N 0 → (tb (am_and o (am_xor (am_shl 1 r) (-1))) v ↔ tb o v ∧ v ≠ r) := by
    intro v v0 v1
    rw [tb_and v0 (by omega), tb_not v0 (by omega), tb_shl v0 (by omega) r0 (by omega)]
    constructor <;> intro q <;> exact ⟨q.1, fun e => q.2 e.symm⟩
  obtain ⟨a, b, c, d, e, f⟩ := J
  have len : ∀ v, 0 ≤ v → v < N 0 → 0 ≤ N (46 + 12 * r + v) ∧ N (46 + 12 * r + v) ≤ 99 := fun v v0 v1 => (O.2.2 r v r0 (by omega) v0 (by omega)).1
  have wr : W' r = W r := by
    rw [hW r r0 r1]; unfold gn
    rw [if_neg (fun q => ((O.2.2 r r r0 (by omega) r0 (by omega)).2.2 q).2.2 rfl)]
  have cl : ∀ u, 0 ≤ u → u < N 0 → ¬ tb o u → W' u = W u := by
    intro u u0 u1 u2
    rw [hW u u0 u1]; unfold gn
    have := d u r u0 u1 r0 r1 u2 r2
    have := len u u0 u1
    split <;> omega
  have le : ∀ v, 0 ≤ v → v < N 0 → W' v ≤ W v ∧ (0 < N (46 + 12 * r + v) → W' v ≤ W r + N (46 + 12 * r + v)) ∧ (W' v = W v ∨ (0 < N (46 + 12 * r + v) ∧ W' v = W r + N (46 + 12 * r + v))) := by
    intro v v0 v1
    rw [hW v v0 v1]; unfold gn
    split <;> omega
  have ar := a r r0 r1
  refine ⟨fun v v0 v1 => ?_, fun v v0 v1 q => ?_, fun u v u0 u1 v0 v1 q k => ?_, fun u v u0 u1 v0 v1 q k => ?_, fun v v0 v1 q => ?_, ?_⟩
  · have := a v v0 v1
    have := le v v0 v1
    have := len v v0 v1
    omega
  · have := b v v0 v1 q
    have := le v v0 v1
    have := len v v0 v1
    have := a v v0 v1
    omega
  · rw [ho u u0 u1] at q
    have l := le v v0 v1
    by_cases e1 : u = r
    · subst e1; rw [wr]; exact l.2.1 k
    · have cu : ¬ tb o u := fun x => q ⟨x, e1⟩
      rw [cl u u0 u1 cu]
      have := c u v u0 u1 v0 v1 cu k
      omega
  · rw [ho u u0 u1] at q
    rw [ho v v0 v1] at k
    have l := le v v0 v1
    have n := len v v0 v1
    have rv := r4 v v0 v1 k.1
    by_cases e1 : u = r
    · subst e1; rw [wr]; omega
    · have cu : ¬ tb o u := fun x => q ⟨x, e1⟩
      rw [cl u u0 u1 cu]
      have := d u v u0 u1 v0 v1 cu k.1
      have := d u r u0 u1 r0 r1 cu r2
      omega
  · have l := le v v0 v1
    rcases l.2.2 with k | ⟨k1, k2⟩
    · rw [k] at q ⊢
      rcases e v v0 v1 q with x | ⟨u, u0, u1, u2, u3, u4⟩
      · exact .inl x
      · refine .inr ⟨u, u0, u1, ?_, u3, ?_⟩
        · rw [ho u u0 u1]; exact fun x => u2 x.1
        · rw [cl u u0 u1 u2]; exact u4
    · refine .inr ⟨r, r0, r1, ?_, k1, ?_⟩
      · rw [ho r r0 r1]; exact fun x => x.2 rfl
      · rw [wr]; exact k2
  · unfold cn at f ⊢
    have := su_upd (f := fun v => if tb (am_and o (am_xor (am_shl 1 r) (-1))) v then 1 else 0) (g := fun v => if tb o v then 1 else 0) (n := N 0) r0 r1 (fun x x0 x1 q => by
      have := ho x x0 x1
      by_cases k : tb o x
      · rw [if_pos (this.mpr ⟨k, q⟩), if_pos k]
      · rw [if_neg (fun y => k (this.mp y).1), if_neg k])
    rw [this]
    rw [if_neg (fun y => ((ho r r0 r1).mp y).2 rfl), if_pos r2]
    omega
theorem L_walkFrom {h0 : am_H} {N : Int → Int} {s : Int} {P : am_H → Prop} (O : OL N) (H : ∀ h1, (∀ p, p ≠ 6 → h1 p = h0 p) → isW N s (h1 6) → P h1) : ∀ x3 x2 h, LR h N → 0 ≤ x3 → x3 ≤ N 0 → (∀ p, p ≠ 6 → h p = h0 p) → dJ N s (h 6) x2 x3 → am_x (am_cd 3) 180 (am_qv P) 0 43 [some (.inr (.inr 1)), none, some (.inl x2), some (.inl x3), none] [] h := by
  have hN := O.1
  refine upto (N 0) (fun x3 ih x2 h R a0 a1 a2 J => ?_)
  have R0 := R.1
  refine g_Land_walkFrom_43 ⟨fun hc => ?_, fun hc => ?_⟩
  · refine H h a2 (dJ_end O J (by omega) (fun v v0 v1 q => absurd q (cn_0 ?_ v v0 v1)))
    rw [J.2.2.2.2.2]; omega
  · refine am_lifti (Nat.le_of_ble_eq_true rfl) (S_nearest O R (fun r hr => ⟨fun c => ?_, fun c => ?_⟩))
    · rcases hr with ⟨q, -⟩ | ⟨r0, r1, r2, r3, r4⟩
      · exact absurd q c
      · refine am_liftv (Nat.le_of_ble_eq_true rfl) (S_goOn O R r0 r1 (fun v v0 v1 => by have := J.1 v v0 v1; omega) (fun h1 f1 w1 => ⟨by omega, ih (by omega) _ _ ?_ (by omega) (by omega) (fun p hp => (f1 p hp).trans (a2 p hp)) (dJ_step O J a0 r0 r1 r2 r3 r4 w1)⟩))
        exact LR_of (f1 _ (by decide)) (f1 _ (by decide)) (f1 _ (by decide)) (f1 _ (by decide)) (f1 _ (by decide)) R
    · rcases hr with ⟨-, q⟩ | ⟨r0, r1, r2, r3, r4⟩
      · exact H h a2 (dJ_end O J (by omega) q)
      · omega
theorem L_walkInit {h0 : am_H} {N : Int → Int} {s : Int} {P : am_H → Prop} (O : OL N) (H : ∀ h1, (∀ p, p ≠ 6 → h1 p = h0 p) → isW N s (h1 6) → P h1) : ∀ x2 h, LR h N → 0 ≤ x2 → x2 ≤ N 0 → (∀ p, p ≠ 6 → h p = h0 p) → (∀ v, 0 ≤ v → v < x2 → h 6 v = if tb s v then 0 else 1000000) → am_x (am_cd 3) 180 (am_qv P) 0 2 [some (.inr (.inr 1)), some (.inl s), some (.inl x2), none, none] [] h := by
  have hN := O.1
  refine upto (N 0) (fun x2 ih h R a0 a1 a2 a3 => ?_)
  have R0 := R.1
  refine g_Land_walkFrom_2 ⟨fun hc => ?_, fun hc => ⟨fun hb => ⟨⟨by omega, by omega⟩, ih (by omega) _ (LR_of (up_ne (by decide)) (up_ne (by decide)) (up_ne (by decide)) (up_ne (by decide)) (up_ne (by decide)) R) (by omega) (by omega) (fun p hp => (up_ne hp).trans (a2 p hp)) (fun v v0 v1 => ?_)⟩, fun hb => ⟨⟨by omega, by omega⟩, ih (by omega) _ (LR_of (up_ne (by decide)) (up_ne (by decide)) (up_ne (by decide)) (up_ne (by decide)) (up_ne (by decide)) R) (by omega) (by omega) (fun p hp => (up_ne hp).trans (a2 p hp)) (fun v v0 v1 => ?_)⟩⟩⟩
  · have sk := shl_ok hN.1 hN.2
    have e : x2 = N 0 := by omega
    subst e
    rw [R0]
    refine ⟨by omega, L_walkFrom O H 0 _ h R (by omega) (by omega) a2 ⟨fun v v0 v1 => ?_, fun v v0 v1 q => ?_, fun u v u0 u1 v0 v1 q k => ?_, fun u v u0 u1 v0 v1 q k => ?_, fun v v0 v1 q => ?_, ?_⟩⟩
    · rw [a3 v v0 v1]; split <;> omega
    · rw [a3 v v0 v1, if_pos q]
    · exact absurd ((tb_all u0 (by omega) hN.1 hN.2).mpr u1) q
    · exact absurd ((tb_all u0 (by omega) hN.1 hN.2).mpr u1) q
    · rw [a3 v v0 v1] at q
      by_cases k : tb s v
      · exact .inl k
      · rw [if_neg k] at q; omega
    · unfold cn
      rw [su_congr (g := fun _ => 1) (fun x x0 x1 => if_pos ((tb_all x0 (by omega) hN.1 hN.2).mpr x1))]
      have : ∀ n : Int, 0 ≤ n → su (fun _ => 1) n = n := fun n hn => su_ind (q := fun x t => t = x) rfl (fun x t _ e => by omega) hn
      rw [this _ hN.1]; omega
  · rw [up_same]
    by_cases q : v = x2
    · subst q; rw [if_pos rfl, if_neg (fun k => k hb)]
    · rw [if_neg q]; exact a3 v v0 (by omega)
  · rw [up_same]
    by_cases q : v = x2
    · subst q; rw [if_pos rfl, if_pos hb]
    · rw [if_neg q]; exact a3 v v0 (by omega)
theorem S_walkFrom {h : am_H} {N : Int → Int} {s : Int} {P : am_H → Prop} (O : OL N) (R : LR h N) (H : ∀ h1, (∀ p, p ≠ 6 → h1 p = h p) → isW N s (h1 6) → P h1) : ∃ h_, am_cd 4 180 [.inr (.inr 1), .inl s] h none h_ ∧ P h_ :=
  e_Land_walkFrom (L_walkInit O H 0 h R (by omega) O.1.1 (fun _ _ => rfl) (fun v _ _ => by omega))
