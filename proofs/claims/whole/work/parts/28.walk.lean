/-! walks between all villages -/
def DW (N : Int → Int) (D : Int → Int → Int) : Prop := ∀ a, 0 ≤ a → a < N 0 → isW N (am_shl 1 a) (D a)
theorem D_bd {N : Int → Int} {D : Int → Int → Int} (W : DW N D) {a b : Int} (a0 : 0 ≤ a) (a1 : a < N 0) (b0 : 0 ≤ b) (b1 : b < N 0) : 0 ≤ D a b ∧ (D a b = 1000000 ∨ D a b ≤ 1188) := (W a a0 a1).1 b b0 b1
theorem D_0 {N : Int → Int} {D : Int → Int → Int} (O : OL N) (W : DW N D) {a : Int} (a0 : 0 ≤ a) (a1 : a < N 0) : D a a = 0 := (W a a0 a1).2.1 a a0 a1 ((tb_shl a0 (by have := O.1; omega) a0 (by have := O.1; omega)).mpr rfl)
theorem D_st {N : Int → Int} {D : Int → Int → Int} (W : DW N D) {a u v : Int} (a0 : 0 ≤ a) (a1 : a < N 0) (u0 : 0 ≤ u) (u1 : u < N 0) (v0 : 0 ≤ v) (v1 : v < N 0) (h : 0 < N (46 + 12 * u + v)) : D a v ≤ D a u + N (46 + 12 * u + v) := (W a a0 a1).2.2.1 u v u0 u1 v0 v1 h
theorem D_pre {N : Int → Int} {D : Int → Int → Int} (O : OL N) (W : DW N D) {a v : Int} (a0 : 0 ≤ a) (a1 : a < N 0) (v0 : 0 ≤ v) (v1 : v < N 0) (h : D a v < 1000000) : v = a ∨ ∃ u, 0 ≤ u ∧ u < N 0 ∧ 0 < N (46 + 12 * u + v) ∧ D a v = D a u + N (46 + 12 * u + v) := by
  have hN := O.1
  rcases (W a a0 a1).2.2.2 v v0 v1 h with q | q
  · exact .inl ((tb_shl v0 (by omega) a0 (by omega)).mp q).symm
  · exact .inr q
theorem D_cons {N : Int → Int} {D : Int → Int → Int} (O : OL N) (W : DW N D) {a u : Int} (a0 : 0 ≤ a) (a1 : a < N 0) (u0 : 0 ≤ u) (u1 : u < N 0) (h : 0 < N (46 + 12 * a + u)) : ∀ b, 0 ≤ b → b < N 0 → D a b ≤ N (46 + 12 * a + u) + D u b := by
  have hN := O.1
  refine measured (fun b => (D u b).toNat) (fun b ih b0 b1 => ?_)
  have x := D_bd W a0 a1 b0 b1
  have y := D_bd W u0 u1 b0 b1
  by_cases q : D u b < 1000000
  · rcases D_pre O W u0 u1 b0 b1 q with k | ⟨w, w0, w1, w2, w3⟩
    · subst k
      have := D_st W a0 a1 a0 a1 b0 b1 h
      rw [D_0 O W a0 a1] at this
      omega
    · have z := D_bd W u0 u1 w0 w1
      have := ih w (by show (D u w).toNat < (D u b).toNat; omega) w0 w1
      have := D_st W a0 a1 w0 w1 b0 b1 w2
      omega
  · omega
theorem D_sym {N : Int → Int} {D : Int → Int → Int} (O : OL N) (W : DW N D) {a b : Int} (a0 : 0 ≤ a) (a1 : a < N 0) (b0 : 0 ≤ b) (b1 : b < N 0) : D a b = D b a := by
  have hN := O.1
  have sym : ∀ u v, 0 ≤ u → u < N 0 → 0 ≤ v → v < N 0 → N (46 + 12 * u + v) = N (46 + 12 * v + u) := fun u v u0 u1 v0 v1 => (O.2.2 u v u0 (by omega) v0 (by omega)).2.1
  have F : isW N (am_shl 1 b) (fun v => D v b) := by
    refine ⟨fun v v0 v1 => D_bd W v0 v1 b0 b1, fun v v0 v1 q => ?_, fun u v u0 u1 v0 v1 q => ?_, fun v v0 v1 q => ?_⟩
    · rw [tb_shl v0 (by omega) b0 (by omega)] at q
      subst q
      exact D_0 O W b0 b1
    · have e := sym u v u0 u1 v0 v1
      have := D_cons O W v0 v1 u0 u1 (by omega) b b0 b1
      show D v b ≤ D u b + N (46 + 12 * u + v)
      omega
    · have key : ∀ c, 0 ≤ c → c < N 0 → D v c < 1000000 → c = v ∨ ∃ u, 0 ≤ u ∧ u < N 0 ∧ 0 < N (46 + 12 * u + v) ∧ D v c = D u c + N (46 + 12 * u + v) := by
        refine measured (fun c => (D v c).toNat) (fun c ih c0 c1 hc => ?_)
        rcases D_pre O W v0 v1 c0 c1 hc with k | ⟨w, w0, w1, w2, w3⟩
        · exact .inl k
        · have z := D_bd W v0 v1 w0 w1
          rcases ih w (by show (D v w).toNat < (D v c).toNat; omega) w0 w1 (by omega) with k | ⟨u, u0, u1, u2, u3⟩
          · subst k
            refine .inr ⟨c, c0, c1, ?_, ?_⟩
            · rw [sym c w c0 c1 v0 v1]; exact w2
            · rw [D_0 O W c0 c1, sym c w c0 c1 v0 v1, w3, D_0 O W v0 v1]
          · refine .inr ⟨u, u0, u1, u2, ?_⟩
            have h1 := D_st W u0 u1 w0 w1 c0 c1 w2
            have e := sym u v u0 u1 v0 v1
            have h2 := D_cons O W v0 v1 u0 u1 (by omega) c c0 c1
            omega
      rcases key b b0 b1 q with k | k
      · exact .inl ((tb_shl v0 (by omega) b0 (by omega)).mpr k)
      · exact .inr k
  exact isW_eq (W b b0 b1) F a0 a1
theorem D_tri {N : Int → Int} {D : Int → Int → Int} (O : OL N) (W : DW N D) {u w : Int} (u0 : 0 ≤ u) (u1 : u < N 0) (w0 : 0 ≤ w) (w1 : w < N 0) : ∀ v, 0 ≤ v → v < N 0 → D u v ≤ D u w + D w v := by
  refine measured (fun v => (D w v).toNat) (fun v ih v0 v1 => ?_)
  have x := D_bd W u0 u1 v0 v1
  have y := D_bd W w0 w1 v0 v1
  have z := D_bd W u0 u1 w0 w1
  by_cases q : D w v < 1000000
  · rcases D_pre O W w0 w1 v0 v1 q with k | ⟨t, t0, t1, t2, t3⟩
    · subst k; omega
    · have s := D_bd W w0 w1 t0 t1
      have := ih t (by show (D w t).toNat < (D w v).toNat; omega) t0 t1
      have := D_st W u0 u1 t0 t1 v0 v1 t2
      omega
  · omega
theorem D_fin {N : Int → Int} {D : Int → Int → Int} (O : OL N) (W : DW N D) {c u v : Int} (c0 : 0 ≤ c) (c1 : c < N 0) (u0 : 0 ≤ u) (u1 : u < N 0) (v0 : 0 ≤ v) (v1 : v < N 0) (hu : D c u < 1000000) (hv : D c v < 1000000) : D u v ≤ 1188 := by
  have := D_tri O W u0 u1 c0 c1 v v0 v1
  rw [D_sym O W u0 u1 c0 c1] at this
  have := D_bd W c0 c1 u0 u1
  have := D_bd W c0 c1 v0 v1
  have := D_bd W u0 u1 v0 v1
  omega
/-! rounds: the best order of all -/
noncomputable def rdf (f : Int → Int × (Int → Int)) (c : Int → Int) (q : Int → Prop) (r : Int → Int) : Nat → Int × (Int → Int)
  | 0 => (100000000, r)
  | j + 1 => @ite _ (q j ∧ c j + (f j).1 < (rdf f c q r j).1) (Classical.propDecidable _) (c j + (f j).1, (f j).2) (rdf f c q r j)
noncomputable def opr (D : Int → Int → Int) (home nv : Int) : Nat → Int → (Int → Prop) → Int → (Int → Int) → Int × (Int → Int)
  | 0, x, _, _, r => (D x home, r)
  | m + 1, x, q, met, r => rdf (fun v => opr D home nv m v (fun u => q u ∧ u ≠ v) (met + 1) (updr r met v)) (fun v => D x v) q r nv.toNat
theorem rdf_s {f : Int → Int × (Int → Int)} {c : Int → Int} {q : Int → Prop} {r : Int → Int} {x : Int} (h : 0 ≤ x) : rdf f c q r (x + 1).toNat = @ite _ (q x ∧ c x + (f x).1 < (rdf f c q r x.toNat).1) (Classical.propDecidable _) (c x + (f x).1, (f x).2) (rdf f c q r x.toNat) := by
  rw [show (x + 1).toNat = x.toNat + 1 by omega]
  show @ite _ (q (x.toNat : Int) ∧ c (x.toNat : Int) + (f (x.toNat : Int)).1 < (rdf f c q r x.toNat).1) (Classical.propDecidable _) (c (x.toNat : Int) + (f (x.toNat : Int)).1, (f (x.toNat : Int)).2) (rdf f c q r x.toNat) = _
  rw [show ((x.toNat : Nat) : Int) = x by omega]
theorem rdf_n {f : Int → Int × (Int → Int)} {c : Int → Int} {q : Int → Prop} {r : Int → Int} {x : Int} (h : 0 ≤ x) (hq : ¬ q x) : rdf f c q r (x + 1).toNat = rdf f c q r x.toNat := by
  rw [rdf_s h, if_neg (fun y => hq y.1)]
theorem rdf_cg {f g : Int → Int × (Int → Int)} {c e : Int → Int} {q p : Int → Prop} {r s : Int → Int} : ∀ n : Nat, (∀ x : Int, 0 ≤ x → x < n → (q x ↔ p x) ∧ (q x → c x = e x ∧ (f x).1 = (g x).1)) → (rdf f c q r n).1 = (rdf g e p s n).1
  | 0, _ => rfl
  | n + 1, h => by
    have ih := rdf_cg (r := r) (s := s) n (fun x x0 x1 => h x x0 (by omega))
    obtain ⟨h1, h2⟩ := h n (by omega) (by omega)
    show (@ite _ (q n ∧ c n + (f n).1 < (rdf f c q r n).1) (Classical.propDecidable _) (c n + (f n).1, (f n).2) (rdf f c q r n)).1 = (@ite _ (p n ∧ e n + (g n).1 < (rdf g e p s n).1) (Classical.propDecidable _) (e n + (g n).1, (g n).2) (rdf g e p s n)).1
    by_cases k : q n ∧ c n + (f n).1 < (rdf f c q r n).1
    · obtain ⟨z1, z2⟩ := h2 k.1
      rw [if_pos k, if_pos ⟨h1.mp k.1, by rw [← z1, ← z2, ← ih]; exact k.2⟩]
      show c n + (f n).1 = e n + (g n).1
      rw [z1, z2]
    · rw [if_neg k]
      by_cases k2 : q n
      · obtain ⟨z1, z2⟩ := h2 k2
        rw [if_neg (fun y => k ⟨k2, by rw [z1, z2, ih]; exact y.2⟩)]; exact ih
      · rw [if_neg (fun y => k2 (h1.mpr y.1))]; exact ih
theorem opr_1 {D : Int → Int → Int} {home nv : Int} : ∀ (m : Nat) (x : Int) (q : Int → Prop) (met met' : Int) (r r' : Int → Int), (opr D home nv m x q met r).1 = (opr D home nv m x q met' r').1
  | 0, _, _, _, _, _, _ => rfl
  | m + 1, x, q, met, met', r, r' => rdf_cg nv.toNat (fun v _ _ => ⟨Iff.rfl, fun _ => ⟨rfl, opr_1 m v _ _ _ _ _⟩⟩)
theorem rdf_lb {f : Int → Int × (Int → Int)} {c : Int → Int} {q : Int → Prop} {r : Int → Int} {X : Int} (hX : X ≤ 100000000) (h : ∀ v, 0 ≤ v → q v → X ≤ c v + (f v).1) : ∀ j : Nat, X ≤ (rdf f c q r j).1
  | 0 => hX
  | j + 1 => by
    have ih := rdf_lb (r := r) hX h j
    show X ≤ (@ite _ (q j ∧ c j + (f j).1 < (rdf f c q r j).1) (Classical.propDecidable _) (c j + (f j).1, (f j).2) (rdf f c q r j)).1
    by_cases k : q j ∧ c j + (f j).1 < (rdf f c q r j).1
    · rw [if_pos k]; exact h j (by omega) k.1
    · rw [if_neg k]; exact ih
theorem rdf_le {f : Int → Int × (Int → Int)} {c : Int → Int} {q : Int → Prop} {r : Int → Int} {v : Int} (v0 : 0 ≤ v) (hq : q v) : ∀ j : Nat, v < j → (rdf f c q r j).1 ≤ c v + (f v).1
  | 0, h => by omega
  | j + 1, h => by
    show (@ite _ (q j ∧ c j + (f j).1 < (rdf f c q r j).1) (Classical.propDecidable _) (c j + (f j).1, (f j).2) (rdf f c q r j)).1 ≤ _
    by_cases k : q j ∧ c j + (f j).1 < (rdf f c q r j).1
    · rw [if_pos k]
      show c j + (f j).1 ≤ _
      rcases (show v = j ∨ v < j by omega) with e | e
      · rw [e]; exact Int.le_refl _
      · have := rdf_le (f := f) (c := c) (r := r) v0 hq j e; omega
    · rw [if_neg k]
      rcases (show v = j ∨ v < j by omega) with e | e
      · rw [e] at hq ⊢
        rcases Int.lt_or_le (c j + (f j).1) (rdf f c q r j).1 with y | y
        · exact absurd ⟨hq, y⟩ k
        · exact y
      · exact rdf_le v0 hq j e
theorem up0_r {f : Int → Int × (Int → Int)} {c : Int → Int} {q : Int → Prop} {r : Int → Int} {x B s : Int} {R : Int → Int} (h : 0 ≤ x) (hq : q x) : up0 B R s (rdf f c q r (x + 1).toNat) = up0 (up0 B R s (rdf f c q r x.toNat)).1 (up0 B R s (rdf f c q r x.toNat)).2 (s + c x) (f x) := by
  rw [rdf_s h]
  generalize rdf f c q r x.toNat = p
  generalize f x = w
  generalize c x = e
  unfold up0
  by_cases a : e + w.1 < p.1
  · rw [if_pos (show q x ∧ e + w.1 < p.1 from ⟨hq, a⟩)]
    by_cases b : s + p.1 < B
    · rw [if_pos b, if_pos (show s + (e + w.1) < B by omega), if_pos (show s + e + w.1 < s + p.1 by omega)]
      show (s + (e + w.1), w.2) = (s + e + w.1, w.2)
      rw [show s + (e + w.1) = s + e + w.1 by omega]
    · rw [if_neg b]
      show (if s + (e + w.1) < B then (s + (e + w.1), w.2) else (B, R)) = (if s + e + w.1 < B then (s + e + w.1, w.2) else (B, R))
      rw [show s + (e + w.1) = s + e + w.1 by omega]
  · rw [if_neg (show ¬ (q x ∧ e + w.1 < p.1) from fun y => a y.2)]
    by_cases b : s + p.1 < B
    · rw [if_pos b]
      show (s + p.1, p.2) = if s + e + w.1 < s + p.1 then (s + e + w.1, w.2) else (s + p.1, p.2)
      rw [if_neg (by omega)]
    · rw [if_neg b]
      show (B, R) = if s + e + w.1 < B then (s + e + w.1, w.2) else (B, R)
      rw [if_neg (by omega)]
/-- how many there are -/
noncomputable def cq (q : Int → Prop) (n : Int) : Int := su (fun u => @ite _ (q u) (Classical.propDecidable _) 1 0) n
theorem cq_bd {q : Int → Prop} {n : Int} (h : 0 ≤ n) : 0 ≤ cq q n ∧ cq q n ≤ 1 * n := su_bd (by omega) h (fun u _ _ => by by_cases k : q u; rw [if_pos k]; omega; rw [if_neg k]; omega)
theorem cq_del {q : Int → Prop} {n v : Int} (v0 : 0 ≤ v) (v1 : v < n) (hq : q v) : cq (fun u => q u ∧ u ≠ v) n = cq q n - 1 := by
  unfold cq
  rw [su_upd (f := fun u => @ite _ (q u ∧ u ≠ v) (Classical.propDecidable _) 1 0) (g := fun u => @ite _ (q u) (Classical.propDecidable _) 1 0) v0 v1 (fun x _ _ e => by
    by_cases k : q x
    · rw [if_pos ⟨k, e⟩, if_pos k]
    · rw [if_neg (fun y => k y.1), if_neg k])]
  rw [if_neg (fun y => y.2 rfl), if_pos hq]
  omega
theorem cq_0 {q : Int → Prop} {n : Int} (h : ∀ u, 0 ≤ u → u < n → ¬ q u) (n0 : 0 ≤ n) : cq q n = 0 := by
  unfold cq
  rw [su_congr (g := fun _ => 0) (fun u u0 u1 => if_neg (h u u0 u1))]
  exact su_ind (q := fun _ t => t = 0) rfl (fun x t _ e => by omega) n0
theorem cq_pos {q : Int → Prop} {n : Int} (n0 : 0 ≤ n) (h : cq q n ≠ 0) : ∃ u, 0 ≤ u ∧ u < n ∧ q u := by
  refine Classical.byContradiction (fun k => h (cq_0 (fun u u0 u1 y => k ⟨u, u0, u1, y⟩) n0))
theorem cq_n0 {q : Int → Prop} {n v : Int} (v0 : 0 ≤ v) (v1 : v < n) (hq : q v) : cq q n ≠ 0 := by
  have := cq_del v0 v1 hq
  have := (cq_bd (q := fun u => q u ∧ u ≠ v) (show 0 ≤ n by omega)).1
  omega
theorem opr_0 {D : Int → Int → Int} {home nv : Int} (hD : ∀ u v, 0 ≤ u → u < nv → 0 ≤ v → v < nv → 0 ≤ D u v) (h0 : 0 ≤ home) (h1 : home < nv) : ∀ (m : Nat) (x : Int) (q : Int → Prop) (met : Int) (r : Int → Int), 0 ≤ x → x < nv → (∀ u, q u → u < nv) → 0 ≤ (opr D home nv m x q met r).1
  | 0, x, _, _, _, x0, x1, _ => hD x home x0 x1 h0 h1
  | m + 1, x, q, met, r, x0, x1, hq => rdf_lb (by omega) (fun v v0 k => by
      have a := opr_0 hD h0 h1 m v (fun u => q u ∧ u ≠ v) (met + 1) (updr r met v) v0 (hq v k) (fun u y => hq u y.1)
      have b := hD x v x0 x1 v0 (hq v k)
      show 0 ≤ D x v + _
      omega) nv.toNat
theorem opr_ub {D : Int → Int → Int} {home nv : Int} (hD : ∀ u v, 0 ≤ u → u < nv → 0 ≤ v → v < nv → D u v ≤ 1000000) (h0 : 0 ≤ home) (h1 : home < nv) : ∀ (m : Nat) (x : Int) (q : Int → Prop) (met : Int) (r : Int → Int), 0 ≤ x → x < nv → (∀ u, q u → 0 ≤ u ∧ u < nv) → cq q nv = m → (opr D home nv m x q met r).1 ≤ 1000000 * (m + 1)
  | 0, x, _, _, _, x0, x1, _, _ => by have := hD x home x0 x1 h0 h1; show D x home ≤ _; omega
  | m + 1, x, q, met, r, x0, x1, hq, hm => by
    obtain ⟨v, v0, v1, k⟩ := cq_pos (q := q) (n := nv) (by omega) (by omega)
    have a := opr_ub hD h0 h1 m v (fun u => q u ∧ u ≠ v) (met + 1) (updr r met v) v0 v1 (fun u y => hq u y.1) (by rw [cq_del v0 v1 k]; omega)
    have b := hD x v x0 x1 v0 v1
    have c := rdf_le (f := fun v => opr D home nv m v (fun u => q u ∧ u ≠ v) (met + 1) (updr r met v)) (c := fun v => D x v) (r := r) v0 k nv.toNat (by omega)
    have d : (opr D home nv (m + 1) x q met r).1 ≤ D x v + (opr D home nv m v (fun u => q u ∧ u ≠ v) (met + 1) (updr r met v)).1 := c
    omega
