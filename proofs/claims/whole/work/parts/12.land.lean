/-! Land -/
def OL (N : Int → Int) : Prop := (0 ≤ N 0 ∧ N 0 ≤ 12) ∧ (∀ v, 0 ≤ v → v < N 0 → (0 ≤ N (10 + 3 * v) ∧ N (10 + 3 * v) ≤ 99) ∧ (0 ≤ N (11 + 3 * v) ∧ N (11 + 3 * v) ≤ 99) ∧ (1 ≤ N (12 + 3 * v) ∧ N (12 + 3 * v) ≤ 999)) ∧ (∀ a b, 0 ≤ a → a < 12 → 0 ≤ b → b < 12 → (0 ≤ N (46 + 12 * a + b) ∧ N (46 + 12 * a + b) ≤ 99) ∧ N (46 + 12 * a + b) = N (46 + 12 * b + a) ∧ (0 < N (46 + 12 * a + b) → a < N 0 ∧ b < N 0 ∧ a ≠ b))
def LR (h : am_H) (N : Int → Int) : Prop := h 1 0 = N 0 ∧ (∀ v, 0 ≤ v → v < N 0 → h 2 v = N (10 + 3 * v) ∧ h 3 v = N (11 + 3 * v) ∧ h 4 v = N (12 + 3 * v)) ∧ (∀ a b, 0 ≤ a → a < 12 → 0 ≤ b → b < 12 → h 5 (12 * a + b) = N (46 + 12 * a + b))
theorem LR_of {h h1 : am_H} {N : Int → Int} (e1 : h1 1 = h 1) (e2 : h1 2 = h 2) (e3 : h1 3 = h 3) (e4 : h1 4 = h 4) (e5 : h1 5 = h 5) (H : LR h N) : LR h1 N := by
  unfold LR
  rw [e1, e2, e3, e4, e5]; exact H
/-- all folk of a set -/
def fo (N : Int → Int) (s n : Int) : Int := su (fun v => if tb s v then N (12 + 3 * v) else 0) n
theorem fo_bd {N : Int → Int} {s n : Int} (O : OL N) (h0 : 0 ≤ n) (h1 : n ≤ N 0) : 0 ≤ fo N s n ∧ fo N s n ≤ 999 * n := by
  refine su_bd (by omega) h0 (fun x x0 x1 => ?_)
  have := (O.2.1 x x0 (by omega)).2.2
  split <;> omega
theorem L_folkOf {h : am_H} {N : Int → Int} {set : Int} {P : Int → am_H → Prop} (O : OL N) (R : LR h N) (H : P (fo N set (N 0)) h) : ∀ x3 x2, 0 ≤ x3 → x3 ≤ N 0 → x2 = fo N set x3 → am_x (am_cd 0) 44 (am_qi P) 0 4 [some (.inr (.inr 1)), some (.inl set), some (.inl x2), some (.inl x3)] [] h := by
  have R0 := R.1
  refine upto (N 0) (fun x3 ih x2 h0 h1 h2 => ?_)
  have b1 := fo_bd (s := set) O h0 h1
  have hN := O.1
  refine g_Land_folkOf_4 ⟨fun hc => ?_, fun hc => ⟨fun hb => ⟨by omega, ih (by omega) _ (by omega) (by omega) ?_⟩, fun hb => ?_⟩⟩
  · rw [h2, show x3 = N 0 by omega]; exact H
  · unfold fo; rw [su_1 h0, if_neg (by simpa using hb)]; unfold fo at h2; omega
  · have r := (R.2.1 x3 h0 (by omega)).2.2
    have b2 := (O.2.1 x3 h0 (by omega)).2.2
    refine ⟨⟨by omega, by omega, by omega⟩, ih (by omega) _ (by omega) (by omega) ?_⟩
    unfold fo; rw [su_1 h0, if_pos hb]; unfold fo at h2; omega
theorem S_folkOf {h : am_H} {N : Int → Int} {set : Int} {P : Int → am_H → Prop} (O : OL N) (R : LR h N) (H : P (fo N set (N 0)) h) : ∃ a h1, am_cd 1 44 [.inr (.inr 1), .inl set] h (some (.inl a)) h1 ∧ P a h1 :=
  e_Land_folkOf (L_folkOf O R H 0 0 (by omega) O.1.1 (su_0 (by omega)).symm)
