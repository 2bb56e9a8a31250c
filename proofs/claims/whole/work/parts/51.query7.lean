/-! changes; forms that differ -/
def chA (m t : Int) : Int := if 0 ≤ t ∧ t < 4 then m else -100001
theorem Q_changes {N : Int → Int} {h : am_H} {t m : Int} {P : Int → am_H → Prop} (S : ST h N) (tx : 0 ≤ t → t < 4 → h 26 t = m ∧ 0 ≤ m) (hf : am_ok (h 0 13 + 1)) (H : ∀ h1, QF N h h1 (chA m t) → P (chA m t) h1) : ∃ a_ h_, am_cd 2 110 [.inr (.inr 0), .inl t] h (some (.inl a_)) h_ ∧ P a_ h_ := by
  refine e_At_changes ⟨fun c => ?_, fun c => ?_⟩
  · have e : chA m t = m := by unfold chA; rw [if_pos c]
    have x := tx c.1 c.2
    rw [e] at H
    rw [x.1]; exact H h (QF_same S (by omega))
  · have e : chA m t = -100001 := by unfold chA; rw [if_neg c]
    rw [e] at H
    exact ⟨hf, H _ (QF_e0 S (by decide))⟩
theorem Q_Mchanges {h : am_H} {t m : Int} {P : Int → am_H → Prop} (tx : 0 ≤ t → t < 4 → h 64 t = m ∧ 0 ≤ m) (hf : am_ok (h 56 3 + 1)) (H : ∀ h1, QM h h1 (chA m t) → P (chA m t) h1) : ∃ a_ h_, am_cd 2 130 [.inr (.inr 56), .inl t] h (some (.inl a_)) h_ ∧ P a_ h_ := by
  refine e_Mo_changes ⟨fun c => ⟨by omega, ?_⟩, fun c => ?_⟩
  · have e : chA m t = m := by unfold chA; rw [if_pos (by omega)]
    have x := tx c.1 (by omega)
    rw [e] at H
    rw [x.1]; exact H h (QM_same (by omega))
  · have e : chA m t = -100001 := by unfold chA; rw [if_neg (by omega)]
    rw [e] at H
    exact ⟨hf, H _ (QM_e0 (by decide))⟩
/-- no two forms are alike -/
def DF (N : Int → Int) : Prop := ∀ f g, 0 ≤ f → f < g → g < N 2 → ¬ lk N g (N (250 + 9 * f)) (fun i => N (251 + 9 * f + i))
theorem DF_fnd {N : Int → Int} {n r f : Int} {x : Int → Int} (D : DF N) (h : fnd N n x r) (f0 : 0 ≤ f) (f1 : f < N 2) (l : lk N f n x) : r = f := by
  rcases h with ⟨_, z⟩ | ⟨r0, r1, r2, r3⟩
  · exact absurd l (z f f0 f1)
  · rcases Int.lt_trichotomy r f with q | q | q
    · refine absurd ?_ (D r f r0 q f1)
      refine ⟨l.1.trans r2.1.symm, fun i i0 i1 => ?_⟩
      rw [r2.1] at i1
      exact (l.2 i i0 i1).trans (r2.2 i i0 i1).symm
    · exact q
    · exact absurd l (r3 f f0 q)
theorem DF_g {N M : Int → Int} (F : OF N) (e2 : M 2 = N 2) (e : ∀ k, 250 ≤ k → k < 520 → M k = N k) (h : DF N) : DF M := by
  have l0 := F.1
  intro f g f0 fg g1 l
  rw [e2] at g1
  have b := (F.2 f f0 (by omega)).1
  have ef : M (250 + 9 * f) = N (250 + 9 * f) := e _ (by omega) (by omega)
  refine h f g f0 fg g1 ⟨?_, fun i i0 i1 => ?_⟩
  · have := l.1
    rw [e _ (by omega) (by omega), ef] at this
    exact this
  · have := l.2 i i0 (by rw [ef]; exact i1)
    rw [e _ (by omega) (by omega)] at this
    rw [this]; exact e _ (by omega) (by omega)
theorem DF_form {N : Int → Int} {s : Int} {y : Int64} (F : OF N) (nn : N 2 < 30) (g : gd s y) (nf : fnd N s (byt y) (-1)) (h : DF N) : DF (fN N s y) := by
  have l0 := F.1
  have s1 := g.2.1
  intro f k f0 fk k1 l
  rw [fN_2] at k1
  have b := (F.2 f f0 (by omega)).1
  have ef : fN N s y (250 + 9 * f) = N (250 + 9 * f) := fN_o (by omega) s1 (by omega)
  rw [ef] at l
  rcases (show k = N 2 ∨ k < N 2 by omega) with q | q
  · subst q
    have nf' : ∀ f, 0 ≤ f → f < N 2 → ¬ lk N f s (byt y) := by
      rcases nf with z | z
      · exact z.2
      · omega
    have ls := l.1
    rw [fN_l l0.1] at ls
    refine nf' f f0 (by omega) ⟨ls.symm, fun i i0 i1 => ?_⟩
    have : fN N s y (251 + 9 * N 2 + i) = fN N s y (251 + 9 * f + i) := l.2 i i0 (by omega)
    rw [fN_s l0.1 i0 i1, fN_o (by omega) s1 (by omega)] at this
    exact this.symm
  · refine h f k f0 fk q ⟨?_, fun i i0 i1 => ?_⟩
    · have := l.1
      rw [fN_o (by omega) s1 (by omega)] at this
      exact this
    · have : fN N s y (251 + 9 * k + i) = fN N s y (251 + 9 * f + i) := l.2 i i0 i1
      rw [fN_o (by omega) s1 (by omega), fN_o (by omega) s1 (by omega)] at this
      exact this
