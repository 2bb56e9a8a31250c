/-! the first heap -/
def am_h0 (L : Nat) (xs : Int → Int) : am_H := fun q j => if q = 1000 ∧ j = 1 then (L : Int) else if q = 2000 then xs j else 0
theorem h0_o {L : Nat} {xs : Int → Int} {q : Nat} (h1 : q ≠ 1000) (h2 : q ≠ 2000) : am_h0 L xs q = fun _ => 0 := by
  funext j; unfold am_h0; rw [if_neg (fun z => h1 z.1), if_neg h2]
theorem h0_k {L : Nat} {xs : Int → Int} : am_h0 L xs 1000 0 = 0 := by
  unfold am_h0; rw [if_neg (fun z => absurd z.2 (by decide)), if_neg (by decide)]
theorem h0_L {L : Nat} {xs : Int → Int} : am_h0 L xs 1000 1 = (L : Int) := by
  unfold am_h0; rw [if_pos ⟨rfl, rfl⟩]
theorem h0_x {L : Nat} {xs : Int → Int} : am_h0 L xs 2000 = xs := by
  funext j; unfold am_h0; rw [if_neg (fun z => absurd z.1 (by decide)), if_pos rfl]
theorem h0_wf {L : Nat} {xs : Int → Int} (hL : L ≤ 384) (hx : ∀ j, am_ok (xs j)) : hwf (am_h0 L xs) L xs := by
  refine ⟨fun p j => ?_, by rw [h0_k]; omega, by rw [h0_L]; omega, h0_x⟩
  unfold am_h0
  by_cases z : p = 1000 ∧ j = 1
  · rw [if_pos z]; constructor <;> omega
  · rw [if_neg z]
    by_cases y : p = 2000
    · rw [if_pos y]; exact hx j
    · rw [if_neg y]; constructor <;> omega
theorem h0_n {L : Nat} {xs : Int → Int} : am_n (am_h0 L xs) = 80 := by unfold am_n; rw [h0_k]; rfl
theorem OK_0 : OK (fun _ => 0) := by
  refine ⟨⟨⟨by decide, by decide⟩, fun v v0 v1 => ?_, fun a b _ _ _ _ => ⟨⟨show (0 : Int) ≤ 0 by decide, show (0 : Int) ≤ 99 by decide⟩, rfl, fun z => ?_⟩⟩, ⟨⟨by decide, by decide⟩, fun v v0 v1 => ?_⟩, ⟨⟨by decide, by decide⟩, fun v v0 v1 => ?_⟩, ⟨⟨by decide, by decide⟩, fun v v0 v1 => ?_⟩, by decide, by decide⟩
  · exact absurd (show v < 0 from v1) (by omega)
  · exact absurd (show (0 : Int) < 0 from z) (by decide)
  · exact absurd (show v < 0 from v1) (by omega)
  · exact absurd (show v < 0 from v1) (by omega)
  · exact absurd (show v < 0 from v1) (by omega)
theorem II_0 {L : Nat} {xs : Int → Int} : II 0 (am_h0 L xs) := by
  have e : ∀ q, q ≠ 1000 → q ≠ 2000 → am_h0 L xs q = fun _ => 0 := fun q a b => h0_o a b
  have n0 : ∀ v : Int, 0 ≤ v → ¬ v < 0 := fun v h => by omega
  refine ⟨fun _ => 0, 0, fun _ => 0, fun _ => 0, fun _ => 0, fun _ _ => 0, fun _ _ _ => 0, fun _ => 0, ⟨e 57 (by decide) (by decide), OK_0, fun f g f0 fg g1 => absurd (show g < 0 from g1) (n0 g (by omega)), ?_⟩, ⟨?_, ?_, ⟨⟨by decide, by decide⟩, fun i i0 i1 => absurd i1 (n0 i i0), fun i i0 i1 => absurd i1 (by omega), fun z => absurd z (by decide)⟩, fun i i0 i1 => absurd i1 (n0 i i0)⟩, ?_, fun t t0 t1 => ?_, ?_, ?_⟩
  · refine ⟨⟨by rw [e 1 (by decide) (by decide)], fun v v0 v1 => absurd (show v < 0 from v1) (n0 v v0), fun a b _ _ _ _ => by rw [e 5 (by decide) (by decide)]⟩, ⟨by rw [e 7 (by decide) (by decide)], fun v v0 v1 => absurd (show v < 0 from v1) (n0 v v0)⟩, ⟨by rw [e 11 (by decide) (by decide)], fun v v0 v1 => absurd (show v < 0 from v1) (n0 v v0)⟩, ⟨by rw [e 17 (by decide) (by decide)], fun v v0 v1 => absurd (show v < 0 from v1) (n0 v v0)⟩, fun f g g0 gf f1 => absurd (show f < 0 from f1) (n0 f (by omega)), by rw [e 0 (by decide) (by decide)]⟩
  · exact ⟨by rw [e 51 (by decide) (by decide)], fun i i0 i1 => absurd i1 (n0 i i0)⟩
  · exact ⟨by rw [e 56 (by decide) (by decide)], fun i k i0 i1 => absurd i1 (n0 i i0)⟩
  · unfold I3; rw [e 25 (by decide) (by decide), e 63 (by decide) (by decide), e 24 (by decide) (by decide), e 56 (by decide) (by decide)]; exact ⟨rfl, rfl, by decide, by decide⟩
  · exact ⟨⟨by rw [e 26 (by decide) (by decide)], fun c c0 c1 => absurd c1 (n0 c c0)⟩, ⟨by rw [e 64 (by decide) (by decide)], fun c c0 c1 => absurd c1 (n0 c c0)⟩, fun c c0 c1 => absurd c1 (n0 c c0), show (0 : Int) ≤ 0 by decide, show (0 : Int) ≤ 12 by decide⟩
  · unfold I5; rw [e 48 (by decide) (by decide), e 49 (by decide) (by decide), e 50 (by decide) (by decide), e 76 (by decide) (by decide), e 77 (by decide) (by decide), e 78 (by decide) (by decide)]; exact ⟨rfl, rfl, rfl, fun s _ _ => ⟨Int.le_refl 0, show (0 : Int) ≤ 20 by decide⟩⟩
  · unfold I6; rw [e 0 (by decide) (by decide), e 56 (by decide) (by decide), h0_k]; exact ⟨rfl, by decide, by decide, by decide, by decide⟩
/-- the world of the first heap -/
def wzf (ad : Nat → Nat) : Option Nat → Value
  | none => .int 0
  | some r => .ref (ad r)
def wz (ad : Nat → Nat) (cA : ClassId) (q : Nat) : va_E := match am_cell q with
  | .inl n => .inl (cA, n, .inl zr)
  | .inr (ci, fs) => .inr (ci, fs.map (wzf ad))
theorem wce_0 {L : Nat} {xs : Int → Int} {ad : Nat → Nat} {cA : ClassId} {q : Nat} (hq : q < 80) : wce ad cA (am_h0 L xs) q = wz ad cA q := by
  have e : am_h0 L xs q = fun _ => 0 := h0_o (by omega) (by omega)
  have z0 : Int32.ofInt 0 = 0 := rfl
  unfold wce wz
  cases am_cell q with
  | inl n =>
    dsimp only
    have : wcf (am_h0 L xs) q = zr := by funext j; unfold wcf zr; rw [e]; exact z0
    rw [this]
  | inr o =>
    dsimp only
    congr 1; congr 1
    unfold wfs
    refine List.ext_getElem? (fun x => ?_)
    rw [List.getElem?_mapIdx, List.getElem?_map]
    cases o.2[x]? with
    | none => rfl
    | some r =>
      show some _ = some _
      congr 1
      cases r with
      | none => show Value.int _ = Value.int 0; rw [e]; rfl
      | some r => rfl
theorem ww_0 {L : Nat} {xs : Int → Int} {ad : Nat → Nat} {cA : ClassId} {E : va_W} (hE : ∀ j, j < 80 → E[j]? = some (ad j, wz ad cA j)) (hl : E.length = 80) : ww ad cA (am_h0 L xs) = E := by
  refine List.ext_getElem? (fun j => ?_)
  by_cases h : j < 80
  · rw [ww_at (by rw [h0_n]; exact h), wce_0 h, hE j h]
  · rw [List.getElem?_eq_none (by unfold ww; rw [List.length_map, List.length_range, h0_n]; omega), List.getElem?_eq_none (by omega)]
