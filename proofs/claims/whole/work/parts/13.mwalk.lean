/-! the reference's walks -/
def BI (N : Int → Int) (s : Int) (w : Int → Int) : Prop := (∀ v, 0 ≤ v → v < N 0 → w v = -1 ∨ (0 ≤ w v ∧ w v ≤ 99 * (su (fun v => if 0 ≤ w v then 1 else 0) (N 0) - 1))) ∧ w s = 0 ∧ (∀ v, 0 ≤ v → v < N 0 → 0 ≤ w v → v = s ∨ ∃ u, 0 ≤ u ∧ u < N 0 ∧ 0 ≤ w u ∧ 0 < N (46 + 12 * u + v) ∧ w u + N (46 + 12 * u + v) ≤ w v)
def BM (N : Int → Int) (w : Int → Int) : Int := su (fun v => if w v < 0 then 1000000 else w v) (N 0)
def BX (N : Int → Int) (w : Int → Int) (a b : Int) : Prop := 0 ≤ w a → 0 < N (46 + 12 * a + b) → 0 ≤ w b ∧ w b ≤ w a + N (46 + 12 * a + b)
theorem BI_bd {N : Int → Int} {s : Int} {w : Int → Int} (O : OL N) (J : BI N s w) {v : Int} (v0 : 0 ≤ v) (v1 : v < N 0) : w v = -1 ∨ (0 ≤ w v ∧ w v ≤ 1089) := by
  have := su_bd (f := fun v => if 0 ≤ w v then 1 else 0) (B := 1) (n := N 0) (by omega) O.1.1 (fun x _ _ => by split <;> omega)
  have := J.1 v v0 v1
  have := O.1
  omega
theorem BM_0 {N : Int → Int} {s : Int} {w : Int → Int} (O : OL N) (J : BI N s w) : 0 ≤ BM N w := (su_bd (B := 1000000) (by omega) O.1.1 (fun x x0 x1 => by have := BI_bd O J x0 x1; split <;> omega)).1
theorem BI_up {N : Int → Int} {s : Int} {w w' : Int → Int} {u v : Int} (O : OL N) (J : BI N s w) (u0 : 0 ≤ u) (u1 : u < N 0) (v0 : 0 ≤ v) (v1 : v < N 0) (hu : 0 ≤ w u) (hl : 0 < N (46 + 12 * u + v)) (hv : w v < 0 ∨ w u + N (46 + 12 * u + v) < w v) (e : ∀ j, w' j = if j = v then w u + N (46 + 12 * u + v) else w j) : BI N s w' ∧ BM N w' < BM N w := by
  have hN := O.1
  have o := O.2.2 u v u0 (by omega) v0 (by omega)
  have ne : u ≠ v := (o.2.2 hl).2.2
  have eu : w' u = w u := by rw [e u, if_neg ne]
  have ev : w' v = w u + N (46 + 12 * u + v) := by rw [e v, if_pos rfl]
  have bu := BI_bd O J u0 u1
  have bv := BI_bd O J v0 v1
  have ns : s ≠ v := by intro q; subst q; have := J.2.1; omega
  have c := su_upd (f := fun v => if 0 ≤ w' v then 1 else 0) (g := fun v => if 0 ≤ w v then 1 else 0) (n := N 0) v0 v1 (fun x _ _ q => by simp only [e x, q, if_false])
  have ju := J.1 u u0 u1
  refine ⟨⟨fun x x0 x1 => ?_, ?_, fun x x0 x1 hx => ?_⟩, ?_⟩
  · have jx := J.1 x x0 x1
    simp only [ev] at c
    rw [if_pos (by omega)] at c
    by_cases q : x = v
    · subst q
      rw [ev, c]
      split <;> rename_i k
      · omega
      · omega
    · rw [e x, if_neg q, c]
      split <;> omega
  · rw [e s, if_neg ns]; exact J.2.1
  · by_cases q : x = v
    · subst q
      exact .inr ⟨u, u0, u1, by omega, hl, by omega⟩
    · rw [e x, if_neg q] at hx ⊢
      rcases J.2.2 x x0 x1 hx with k | ⟨y, y0, y1, y2, y3, y4⟩
      · exact .inl k
      · refine .inr ⟨y, y0, y1, ?_, y3, ?_⟩
        · rw [e y]; split <;> omega
        · rw [e y]; split
          · rename_i k; subst k; omega
          · exact y4
  · unfold BM
    have := su_upd (f := fun v => if w' v < 0 then 1000000 else w' v) (g := fun v => if w v < 0 then 1000000 else w v) (n := N 0) v0 v1 (fun x _ _ q => by simp only [e x, q, if_false])
    simp only [ev] at this
    rw [this, if_neg (by omega)]
    split <;> omega
theorem BI_end {N : Int → Int} {s : Int} {w : Int → Int} (O : OL N) (s0 : 0 ≤ s) (s1 : s < N 0) (J : BI N s w) (h : ∀ a b, 0 ≤ a → a < N 0 → 0 ≤ b → b < N 0 → BX N w a b) : isW N (am_shl 1 s) (fun v => if w v < 0 then 1000000 else w v) := by
  have hN := O.1
  refine ⟨fun v v0 v1 => ?_, fun v v0 v1 q => ?_, fun u v u0 u1 v0 v1 q => ?_, fun v v0 v1 q => ?_⟩
  · have := BI_bd O J v0 v1
    dsimp only
    split <;> omega
  · rw [tb_shl v0 (by omega) s0 (by omega)] at q
    subst q
    have := J.2.1
    dsimp only
    rw [if_neg (by omega)]; exact this
  · have x := h u v u0 u1 v0 v1
    have := BI_bd O J v0 v1
    dsimp only
    by_cases k : w u < 0
    · rw [if_pos k]; split <;> omega
    · have := x (by omega) q
      rw [if_neg k, if_neg (by omega)]; omega
  · dsimp only at q ⊢
    by_cases k : w v < 0
    · rw [if_pos k] at q; omega
    · rw [if_neg k] at q ⊢
      rcases J.2.2 v v0 v1 (by omega) with t | ⟨u, u0, u1, u2, u3, u4⟩
      · exact .inl ((tb_shl v0 (by omega) s0 (by omega)).mpr t.symm)
      · refine .inr ⟨u, u0, u1, u3, ?_⟩
        have := h u v u0 u1 v0 v1 u2 u3
        rw [if_neg (by omega)]; omega
def BZ (N : Int → Int) (s : Int) (h0 h : am_H) (M x2 : Int) (Z : Int → Int → Prop) : Prop := (∀ p, p ≠ 59 → h p = h0 p) ∧ BI N s (h 59) ∧ ((x2 = 0 ∧ ∀ a b, 0 ≤ a → a < N 0 → 0 ≤ b → b < N 0 → Z a b → BX N (h 59) a b) ∨ (x2 = 1 ∧ BM N (h 59) < M))
theorem BZ_up {N : Int → Int} {s : Int} {h0 h : am_H} {M x2 : Int} {Z Z' : Int → Int → Prop} {u v : Int} (O : OL N) (J : BZ N s h0 h M x2 Z) (hM : BM N (h 59) ≤ M) (u0 : 0 ≤ u) (u1 : u < N 0) (v0 : 0 ≤ v) (v1 : v < N 0) (hu : 0 ≤ h 59 u) (hl : 0 < N (46 + 12 * u + v)) (hv : h 59 v < 0 ∨ h 59 u + N (46 + 12 * u + v) < h 59 v) : BZ N s h0 (am_up h 59 v (h 59 u + N (46 + 12 * u + v))) M 1 Z' := by
  obtain ⟨k1, k2⟩ := BI_up (w' := am_up h 59 v (h 59 u + N (46 + 12 * u + v)) 59) O J.2.1 u0 u1 v0 v1 hu hl hv (fun j => up_same)
  exact ⟨fun p hp => (up_ne hp).trans (J.1 p hp), k1, .inr ⟨rfl, by omega⟩⟩
theorem L_MfW53 {N : Int → Int} {s : Int} {h0 : am_H} {P : am_H → Prop} {M x3 : Int} (O : OL N) (eN : h0 57 = N) (x30 : 0 ≤ x3) (x31 : x3 < N 0) (H : ∀ x2 h, BZ N s h0 h M x2 (fun a _ => a < x3 + 1) → BM N (h 59) ≤ M → am_x (am_cd 1) 120 (am_qv P) 0 40 [some (.inr (.inr 56)), none, some (.inl x2), some (.inl (x3 + 1)), none, none] [] h) : ∀ x4 x2 h, 0 ≤ x4 → x4 ≤ N 0 → BM N (h 59) ≤ M → BZ N s h0 h M x2 (fun a b => a < x3 ∨ a = x3 ∧ b < x4) → am_x (am_cd 1) 120 (am_qv P) 0 53 [some (.inr (.inr 56)), none, some (.inl x2), some (.inl x3), some (.inl x4), none] [] h := by
  have hN := O.1
  refine upto (N 0) (fun x4 ih x2 h a0 a1 hM J => ?_)
  have e57 : h 57 = N := (J.1 57 (by decide)).trans eN
  have e0 : h 57 0 = N 0 := by rw [e57]
  refine g_Mo_findWalks_53 ⟨fun hc => ⟨by omega, H _ _ ⟨J.1, J.2.1, ?_⟩ hM⟩, fun hc => ⟨by omega, fun hd => ⟨by omega, H _ _ ⟨J.1, J.2.1, ?_⟩ hM⟩, fun hd => ?_⟩⟩
  · rcases J.2.2 with ⟨q1, q2⟩ | q
    · exact .inl ⟨q1, fun a b a0 a1 b0 b1 z => q2 a b a0 a1 b0 b1 (by omega)⟩
    · exact .inr q
  · rcases J.2.2 with ⟨q1, q2⟩ | q
    · refine .inl ⟨q1, fun a b a0 a1 b0 b1 z => ?_⟩
      rcases (show a < x3 ∨ a = x3 by omega) with k | k
      · exact q2 a b a0 a1 b0 b1 (.inl k)
      · subst k; intro q; omega
    · exact .inr q
  · rw [e57]
    have o := O.2.2 x3 x4 x30 (by omega) a0 (by omega)
    have b3 := BI_bd O J.2.1 x30 x31
    refine ⟨⟨by omega, by omega, by omega, by omega⟩, by omega, fun he => ⟨by omega, ih (by omega) _ _ (by omega) (by omega) hM ⟨J.1, J.2.1, ?_⟩⟩, fun he => ⟨by omega, fun hf => ⟨by omega, ?_⟩, fun hf => ⟨fun hg => ⟨by omega, ?_⟩, fun hg => ⟨by omega, ih (by omega) _ _ (by omega) (by omega) hM ⟨J.1, J.2.1, ?_⟩⟩⟩⟩⟩
    · rcases J.2.2 with ⟨q1, q2⟩ | q
      · refine .inl ⟨q1, fun a b a0 a1 b0 b1 z => ?_⟩
        by_cases k : a = x3 ∧ b = x4
        · obtain ⟨rfl, rfl⟩ := k; intro _ q; omega
        · exact q2 a b a0 a1 b0 b1 (by omega)
      · exact .inr q
    · have J' := BZ_up (Z' := fun a b => a < x3 ∨ a = x3 ∧ b < x4 + 1) O J hM x30 x31 a0 (by omega) hd (by omega) (.inl hf)
      exact ih (by omega) _ _ (by omega) (by omega) (by rcases J'.2.2 with q | q <;> omega) J'
    · have J' := BZ_up (Z' := fun a b => a < x3 ∨ a = x3 ∧ b < x4 + 1) O J hM x30 x31 a0 (by omega) hd (by omega) (.inr hg)
      exact ih (by omega) _ _ (by omega) (by omega) (by rcases J'.2.2 with q | q <;> omega) J'
    · rcases J.2.2 with ⟨q1, q2⟩ | q
      · refine .inl ⟨q1, fun a b a0 a1 b0 b1 z => ?_⟩
        by_cases k : a = x3 ∧ b = x4
        · obtain ⟨rfl, rfl⟩ := k; intro _ _; exact ⟨hf, hg⟩
        · exact q2 a b a0 a1 b0 b1 (by omega)
      · exact .inr q
theorem L_MfW40 {N : Int → Int} {s : Int} {h0 : am_H} {P : am_H → Prop} {M : Int} (O : OL N) (eN : h0 57 = N) (H : ∀ x2 h, BZ N s h0 h M x2 (fun _ _ => True) → am_x (am_cd 1) 120 (am_qv P) 0 32 [some (.inr (.inr 56)), none, some (.inl x2), none, none, none] [] h) : ∀ x3 x2 h, 0 ≤ x3 → x3 ≤ N 0 → BZ N s h0 h M x2 (fun a _ => a < x3) → BM N (h 59) ≤ M → am_x (am_cd 1) 120 (am_qv P) 0 40 [some (.inr (.inr 56)), none, some (.inl x2), some (.inl x3), none, none] [] h := by
  have hN := O.1
  refine upto (N 0) (fun x3 ih x2 h a0 a1 J hM => ?_)
  have e57 : h 57 = N := (J.1 57 (by decide)).trans eN
  refine g_Mo_findWalks_40 ⟨fun hc => H _ _ ⟨J.1, J.2.1, ?_⟩, fun hc => ?_⟩
  · rw [e57] at hc
    rcases J.2.2 with ⟨q1, q2⟩ | q
    · exact .inl ⟨q1, fun a b a0 a1 b0 b1 _ => q2 a b a0 a1 b0 b1 (by omega)⟩
    · exact .inr q
  · rw [e57] at hc
    refine L_MfW53 O eN a0 hc (fun x2 h J hM => ih hc _ _ (by omega) (by omega) J hM) 0 x2 h (by omega) hN.1 hM ⟨J.1, J.2.1, ?_⟩
    rcases J.2.2 with ⟨q1, q2⟩ | q
    · exact .inl ⟨q1, fun a b a0 a1 b0 b1 z => q2 a b a0 a1 b0 b1 (by omega)⟩
    · exact .inr q
def Wof (w : Int → Int) : Int → Int := fun v => if w v < 0 then 1000000 else w v
theorem L_MfW32 {N : Int → Int} {s : Int} {h0 : am_H} {P : am_H → Prop} (O : OL N) (s0 : 0 ≤ s) (s1 : s < N 0) (eN : h0 57 = N) (H : ∀ h1, (∀ p, p ≠ 59 → h1 p = h0 p) → isW N (am_shl 1 s) (Wof (h1 59)) → (∀ v, 0 ≤ v → v < N 0 → h1 59 v ≤ 1188) → P h1) : ∀ h, (∀ p, p ≠ 59 → h p = h0 p) → BI N s (h 59) → am_x (am_cd 1) 120 (am_qv P) 0 32 [some (.inr (.inr 56)), none, some (.inl 1), none, none, none] [] h := by
  refine measured (fun h => (BM N (h 59)).toNat) (fun h ih a2 J => ?_)
  refine g_Mo_findWalks_32 ⟨fun hc => by omega, fun _ => ?_⟩
  refine L_MfW40 (M := BM N (h 59)) O eN (fun x2 h1 J1 => ?_) 0 0 h (by omega) O.1.1 ⟨a2, J, .inl ⟨rfl, fun a b _ _ _ _ q => by omega⟩⟩ (by omega)
  have := BM_0 O J1.2.1
  rcases J1.2.2 with ⟨rfl, q⟩ | ⟨rfl, q⟩
  · refine g_Mo_findWalks_32 ⟨fun _ => H h1 J1.1 (BI_end O s0 s1 J1.2.1 (fun a b a0 a1 b0 b1 => q a b a0 a1 b0 b1 trivial)) (fun v v0 v1 => by have := BI_bd O J1.2.1 v0 v1; omega), fun hc => absurd rfl hc⟩
  · exact ih h1 (by show (BM N (h1 59)).toNat < (BM N (h 59)).toNat; omega) J1.1 J1.2.1
theorem L_MfW2 {N : Int → Int} {s : Int} {h0 : am_H} {P : am_H → Prop} (O : OL N) (s0 : 0 ≤ s) (s1 : s < N 0) (eN : h0 57 = N) (H : ∀ h1, (∀ p, p ≠ 59 → h1 p = h0 p) → isW N (am_shl 1 s) (Wof (h1 59)) → (∀ v, 0 ≤ v → v < N 0 → h1 59 v ≤ 1188) → P h1) : ∀ x2 h, 0 ≤ x2 → x2 ≤ 12 → (∀ p, p ≠ 59 → h p = h0 p) → (∀ v, 0 ≤ v → v < x2 → h 59 v = if v = s then 0 else -1) → am_x (am_cd 1) 120 (am_qv P) 0 2 [some (.inr (.inr 56)), some (.inl s), some (.inl x2), none, none, none] [] h := by
  have hN := O.1
  refine upto 12 (fun x2 ih h a0 a1 a2 a3 => ?_)
  refine g_Mo_findWalks_2 ⟨fun hc => ?_, fun hc => ⟨fun hb => ⟨⟨by omega, by omega⟩, ih (by omega) _ (by omega) (by omega) (fun p hp => (up_ne hp).trans (a2 p hp)) (fun v v0 v1 => ?_)⟩, fun hb => ⟨⟨by omega, by omega⟩, ih (by omega) _ (by omega) (by omega) (fun p hp => (up_ne hp).trans (a2 p hp)) (fun v v0 v1 => ?_)⟩⟩⟩
  · refine L_MfW32 O s0 s1 eN H h a2 ⟨fun v v0 v1 => ?_, ?_, fun v v0 v1 q => ?_⟩
    · have := su_upd (f := fun v => if 0 ≤ h 59 v then 1 else 0) (g := fun _ => 0) (n := N 0) s0 s1 (fun x x0 x1 q => by rw [a3 x x0 (by omega), if_neg q]; rfl)
      have z : su (fun _ => 0) (N 0) = 0 := su_ind (q := fun _ t => t = 0) rfl (fun x t _ e => by omega) hN.1
      rw [a3 v v0 (by omega), this, z, a3 s s0 (by omega)]
      by_cases k : v = s <;> simp [k]
    · rw [a3 s s0 (by omega), if_pos rfl]
    · rw [a3 v v0 (by omega)] at q
      by_cases k : v = s
      · exact .inl k
      · rw [if_neg k] at q; omega
  · rw [up_same]
    by_cases q : v = x2
    · subst q; rw [if_pos rfl, if_neg hb]
    · rw [if_neg q]; exact a3 v v0 (by omega)
  · rw [up_same]
    by_cases q : v = x2
    · subst q; rw [if_pos rfl, if_pos hb]
    · rw [if_neg q]; exact a3 v v0 (by omega)
theorem S_MfindWalks {h : am_H} {N : Int → Int} {s : Int} {P : am_H → Prop} (O : OL N) (s0 : 0 ≤ s) (s1 : s < N 0) (eN : h 57 = N) (H : ∀ h1, (∀ p, p ≠ 59 → h1 p = h p) → isW N (am_shl 1 s) (Wof (h1 59)) → (∀ v, 0 ≤ v → v < N 0 → h1 59 v ≤ 1188) → P h1) : ∃ h_, am_cd 2 120 [.inr (.inr 56), .inl s] h none h_ ∧ P h_ :=
  e_Mo_findWalks (L_MfW2 O s0 s1 eN H 0 h (by omega) (by omega) (fun _ _ => rfl) (fun v _ _ => by omega))
