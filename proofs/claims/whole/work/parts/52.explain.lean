/-! what a text explains, and how much it covers -/
def tRow (N : Int → Int) (T : Int → Int → Int) (m f : Int) : Int × (Int → Int) := rwn T (N (250 + 9 * f)) (snd N f) m.toNat
theorem S_turnedForm {N : Int → Int} {h : am_H} {f t m : Int} {T : Int → Int → Int} {P : Int → am_H → Prop} (F : OF N) (R : FR h N) (f0 : 0 ≤ f) (f1 : f < N 2) (C : TC h t m T) (O : OT T m) (t0 : 0 ≤ t) (t1 : t < 4) (m0 : 0 ≤ m) (m1 : m ≤ 12) (H : ∀ h1 r, (∀ p, p ≠ 24 → p ≠ 31 → h1 p = h p) → (∀ j, j ≠ 8 → h1 24 j = h 24 j) → fnd N (tRow N T m f).1 (tRow N T m f).2 r → P r h1) : ∃ a_ h_, am_cd 4 183 [.inr (.inr 24), .inl f, .inl t] h (some (.inl a_)) h_ ∧ P a_ h_ := by
  refine e_Texts_turnedForm (am_lifti (Nat.le_of_ble_eq_true rfl) (S_turn F R f0 f1 C O t0 t1 m0 m1 (fun h1 g1 g2 w1 => am_lifti (Nat.le_of_ble_eq_true rfl) (S_find (k := 8) (fun h => by with_unfolding_all rfl) (by decide) (by decide) F (FR_of (by rw [g1 11 (by decide) (by decide)]) (g1 12 (by decide) (by decide)) (g1 13 (by decide) (by decide)) R) (fun r hr => H h1 r g1 g2 (fnd_cg w1 hr))))))
def EX (N : Int → Int) (T : Int → Int → Int → Int) (m : Int → Int) (S f r : Int) : Prop := (0 ≤ r ∧ r < 4 ∧ lk N S (tRow N (T r) (m r) f).1 (tRow N (T r) (m r) f).2 ∧ ∀ t, 0 ≤ t → t < r → ¬ lk N S (tRow N (T t) (m t) f).1 (tRow N (T t) (m t) f).2) ∨ (r = -100006 ∧ ∀ t, 0 ≤ t → t < 4 → ¬ lk N S (tRow N (T t) (m t) f).1 (tRow N (T t) (m t) f).2)
theorem EX_one {N : Int → Int} {T : Int → Int → Int → Int} {m : Int → Int} {S f r r' : Int} (A : EX N T m S f r) (B : EX N T m S f r') : r = r' := by
  rcases A with ⟨a0, a1, a2, a3⟩ | ⟨a0, a1⟩ <;> rcases B with ⟨b0, b1, b2, b3⟩ | ⟨b0, b1⟩
  · rcases Int.lt_trichotomy r r' with q | q | q
    · exact absurd a2 (b3 r a0 q)
    · exact q
    · exact absurd b2 (a3 r' b0 q)
  · exact absurd a2 (b1 r a0 a1)
  · exact absurd b2 (a1 r' b0 b1)
  · omega
