/-! the reference: what all villages say -/
theorem L_MsumOf {N : Int → Int} {h : am_H} {v t f d : Int} {P : Int → am_H → Prop} (O : OP N) (eN : h 57 = N) (t0 : 0 ≤ t) (t1 : t < 6) (hl : ∀ w, 0 ≤ w → w < N 1 → h 61 (6 * w + t) = lat N d w t) (H : P (ws N d v t f) h) : ∀ x5 x4, 0 ≤ x5 → x5 ≤ N 1 → x4 = su (fun w => if N (190 + 3 * w) = v ∧ lat N d w t = f then wt N w else 0) x5 → am_x (am_cd 1) 127 (am_qi P) 0 6 [some (.inr (.inr 56)), some (.inl v), some (.inl t), some (.inl f), some (.inl x4), some (.inl x5)] [] h := by
  have oN := O.1
  refine upto (N 1) (fun x5 ih x4 a0 a1 a2 => ?_)
  have b := su_bd (f := fun w => if N (190 + 3 * w) = v ∧ lat N d w t = f then wt N w else 0) (B := 35) (n := x5) (by omega) a0 (fun w w0 w1 => by have := wt_bd O w0 (show w < N 1 by omega); split <;> omega)
  refine g_Mo_sumOf_6 ?_
  rw [eN]
  refine ⟨fun hc => ?_, fun hc => ?_⟩
  · unfold ws at H
    rw [a2, show x5 = N 1 by omega]; exact H
  · have l := hl x5 a0 hc
    have wb := wt_bd O a0 hc
    rw [l]
    refine ⟨⟨by omega, by omega, by omega⟩, fun c1 => ⟨⟨by omega, by omega⟩, ih hc _ (by omega) (by omega) ?_⟩, fun c1 => ⟨⟨by omega, by omega, by omega⟩, fun c2 => ⟨⟨by omega, by omega⟩, ih hc _ (by omega) (by omega) ?_⟩, fun c2 => am_lifti (Nat.le_of_ble_eq_true rfl) (S_MweightOf O eN a0 hc ⟨⟨by omega, by omega⟩, ih hc _ (by omega) (by omega) ?_⟩)⟩⟩
    · rw [su_1 a0, if_neg (fun y => c1 y.1)]; omega
    · rw [su_1 a0, if_neg (fun y => c2 y.2)]; omega
    · rw [su_1 a0, if_pos ⟨c1, c2⟩]; omega
theorem S_MsumOf {N : Int → Int} {h : am_H} {v t f d : Int} {P : Int → am_H → Prop} (O : OP N) (eN : h 57 = N) (t0 : 0 ≤ t) (t1 : t < 6) (hl : ∀ w, 0 ≤ w → w < N 1 → h 61 (6 * w + t) = lat N d w t) (H : P (ws N d v t f) h) : ∃ a_ h_, am_cd 2 127 [.inr (.inr 56), .inl v, .inl t, .inl f] h (some (.inl a_)) h_ ∧ P a_ h_ :=
  e_Mo_sumOf (L_MsumOf O eN t0 t1 hl H 0 0 (by omega) O.1.1 (su_0 (by omega)).symm)
def lJ (N : Int → Int) (d : Int) (h : am_H) : Prop := ∀ w t, 0 ≤ w → w < 20 → 0 ≤ t → t < 6 → h 61 (6 * w + t) = lat N d w t
theorem L_Msettle144 {N : Int → Int} {h0 : am_H} {d v t : Int} {P : am_H → Prop} (O : OP N) (L : OL N) (F : OF N) (C : OA N) (eN : h0 57 = N) (v0 : 0 ≤ v) (v1 : v < N 0) (t0 : 0 ≤ t) (t1 : t < 6) (G : Int → Int) (H : ∀ h, (∀ p, p ≠ 61 → p ≠ 62 → h p = h0 p) → lJ N d h → (∀ j, h 62 j = if j = 6 * v + t then sd N d v t else G j) → am_x (am_cd 2) 167 (am_qv P) 0 120 [some (.inr (.inr 56)), none, some (.inl v), some (.inl (t + 1)), none, none, none] [] h) : ∀ x5 h, 0 ≤ x5 → x5 ≤ N 2 → (∀ p, p ≠ 61 → p ≠ 62 → h p = h0 p) → lJ N d h → (∀ j, h 62 j = if j = 6 * v + t then sdb (ws N d v t) x5.toNat else G j) → am_x (am_cd 2) 167 (am_qv P) 0 144 [some (.inr (.inr 56)), none, some (.inl v), some (.inl t), some (.inl (sdm (ws N d v t) x5.toNat)), some (.inl x5), none] [] h := by
  have oN := O.1
  have lN := L.1
  have fN := F.1
  refine upto (N 2) (fun x5 ih h a0 a1 a2 J a3 => ?_)
  have e57 : h 57 = N := (a2 57 (by decide) (by decide)).trans eN
  refine g_Mo_settle_144 ?_
  rw [e57]
  refine ⟨fun hc => ⟨by omega, H h a2 J (fun j => ?_)⟩, fun hc => ?_⟩
  · rw [a3 j, show x5 = N 2 by omega]; rfl
  · refine am_lifti (Nat.le_of_ble_eq_true rfl) (S_MsumOf (d := d) O e57 t0 t1 (fun w w0 w1 => J w t w0 (by omega) t0 t1) ?_)
    have i := fun h' b2 J' b3 => ih hc h' (by omega) (by omega) b2 J' b3
    rw [sdm_s a0] at i
    refine ⟨fun c => ⟨⟨by omega, by omega, by omega, by omega⟩, ?_⟩, fun c => ⟨by omega, ?_⟩⟩
    · rw [show max (sdm (ws N d v t) x5.toNat) (ws N d v t x5) = ws N d v t x5 by omega] at i
      refine i _ (fun p p1 p2 => (up_ne p2).trans (a2 p p1 p2)) (fun w t w0 w1 t0 t1 => by rw [up_ne (by decide)]; exact J w t w0 w1 t0 t1) (fun j => ?_)
      rw [up_same, sdb_s a0, if_pos c]
      by_cases q : j = 6 * v + t
      · rw [if_pos q, if_pos q]
      · rw [if_neg q, if_neg q, a3 j, if_neg q]
    · rw [show max (sdm (ws N d v t) x5.toNat) (ws N d v t x5) = sdm (ws N d v t) x5.toNat by omega] at i
      refine i h a2 J (fun j => ?_)
      rw [sdb_s a0, if_neg (show ¬ sdm (ws N d v t) x5.toNat < ws N d v t x5 by omega)]
      exact a3 j
theorem L_Msettle120 {N : Int → Int} {h0 : am_H} {d v : Int} {P : am_H → Prop} (O : OP N) (L : OL N) (F : OF N) (C : OA N) (eN : h0 57 = N) (v0 : 0 ≤ v) (v1 : v < N 0) (H : ∀ h, (∀ p, p ≠ 61 → p ≠ 62 → h p = h0 p) → lJ N d h → (∀ u t, 0 ≤ u → u ≤ v → 0 ≤ t → t < 6 → h 62 (6 * u + t) = sd N d u t) → am_x (am_cd 2) 167 (am_qv P) 0 108 [some (.inr (.inr 56)), none, some (.inl (v + 1)), none, none, none, none] [] h) : ∀ x3 h, 0 ≤ x3 → x3 ≤ 6 → (∀ p, p ≠ 61 → p ≠ 62 → h p = h0 p) → lJ N d h → (∀ u t, 0 ≤ u → 0 ≤ t → t < 6 → (u < v ∨ u = v ∧ t < x3) → h 62 (6 * u + t) = sd N d u t) → am_x (am_cd 2) 167 (am_qv P) 0 120 [some (.inr (.inr 56)), none, some (.inl v), some (.inl x3), none, none, none] [] h := by
  have lN := L.1
  refine upto 6 (fun x3 ih h a0 a1 a2 J a3 => ?_)
  refine g_Mo_settle_120 ⟨fun hc => ⟨by omega, H h a2 J (fun u t u0 u1 t0 t1 => a3 u t u0 t0 t1 (by omega))⟩, fun hc => ⟨⟨by omega, by omega, by omega⟩, ?_⟩⟩
  refine L_Msettle144 O L F C eN v0 v1 a0 hc (h 62) (fun h' b2 J' b3 => ih hc h' (by omega) (by omega) b2 J' (fun u t u0 t0 t1 q => ?_)) 0 _ (by omega) F.1.1 (fun p p1 p2 => (up_ne p2).trans (a2 p p1 p2)) (fun w t w0 w1 t0 t1 => by rw [up_ne (by decide)]; exact J w t w0 w1 t0 t1) (fun j => up_same)
  rw [b3]
  by_cases k : 6 * u + t = 6 * v + x3
  · rw [if_pos k, show u = v by omega, show t = x3 by omega]
  · rw [if_neg k]; exact a3 u t u0 t0 t1 (by omega)
theorem L_Msettle108 {N : Int → Int} {h0 : am_H} {d : Int} {P : am_H → Prop} (O : OP N) (L : OL N) (F : OF N) (C : OA N) (eN : h0 57 = N) (H : ∀ h, (∀ p, p ≠ 61 → p ≠ 62 → h p = h0 p) → lJ N d h → (∀ u t, 0 ≤ u → u < N 0 → 0 ≤ t → t < 6 → h 62 (6 * u + t) = sd N d u t) → P h) : ∀ x2 h, 0 ≤ x2 → x2 ≤ N 0 → (∀ p, p ≠ 61 → p ≠ 62 → h p = h0 p) → lJ N d h → (∀ u t, 0 ≤ u → u < x2 → 0 ≤ t → t < 6 → h 62 (6 * u + t) = sd N d u t) → am_x (am_cd 2) 167 (am_qv P) 0 108 [some (.inr (.inr 56)), none, some (.inl x2), none, none, none, none] [] h := by
  refine upto (N 0) (fun x2 ih h a0 a1 a2 J a3 => ?_)
  have e57 : h 57 = N := (a2 57 (by decide) (by decide)).trans eN
  refine g_Mo_settle_108 ?_
  rw [e57]
  refine ⟨fun hc => H h a2 J (fun u t u0 u1 => a3 u t u0 (by omega)), fun hc => ?_⟩
  exact L_Msettle120 O L F C eN a0 hc (fun h' b2 J' b3 => ih hc h' (by omega) (by omega) b2 J' (fun u t u0 u1 => b3 u t u0 (by omega))) 0 h (by omega) (by omega) a2 J (fun u t u0 t0 t1 q => a3 u t u0 (by omega) t0 t1)
theorem L_Msettle23 {N : Int → Int} {h0 : am_H} {d : Int} {P : am_H → Prop} (O : OP N) (L : OL N) (F : OF N) (C : OA N) (eN : h0 57 = N) (H : ∀ h, (∀ p, p ≠ 61 → p ≠ 62 → h p = h0 p) → lJ N d h → (∀ u t, 0 ≤ u → u < N 0 → 0 ≤ t → t < 6 → h 62 (6 * u + t) = sd N d u t) → P h) : ∀ x2 h, 0 ≤ x2 → x2 ≤ N 3 → (∀ p, p ≠ 61 → p ≠ 62 → h p = h0 p) → (∀ w t, 0 ≤ w → w < 20 → 0 ≤ t → t < 6 → h 61 (6 * w + t) = la N d w t x2.toNat) → am_x (am_cd 2) 167 (am_qv P) 0 23 [some (.inr (.inr 56)), some (.inl d), some (.inl x2), none, none, none, none] [] h := by
  have oN := O.1
  have cN := C.1
  refine upto (N 3) (fun x2 ih h a0 a1 a2 J => ?_)
  have e57 : h 57 = N := (a2 57 (by decide) (by decide)).trans eN
  refine g_Mo_settle_23 ?_
  rw [e57]
  refine ⟨fun hc => ?_, fun hc => ?_⟩
  · refine L_Msettle108 O L F C eN H 0 h (by omega) L.1.1 a2 (fun w t w0 w1 t0 t1 => ?_) (fun u t u0 u1 => by omega)
    rw [J w t w0 w1 t0 t1, show x2 = N 3 by omega]; rfl
  · have c := C.2 x2 a0 hc
    have st : ∀ w t, la N d w t (x2 + 1).toNat = if km N d w t x2 then N (522 + 5 * x2) else la N d w t x2.toNat := by
      intro w t
      rw [show (x2 + 1).toNat = x2.toNat + 1 by omega]
      show (if km N d w t (x2.toNat : Int) then N (522 + 5 * (x2.toNat : Int)) else la N d w t x2.toNat) = _
      rw [show ((x2.toNat : Nat) : Int) = x2 by omega]
    have skip : (¬ kn N d x2) → am_x (am_cd 2) 167 (am_qv P) 0 23 [some (.inr (.inr 56)), some (.inl d), some (.inl (x2 + 1)), none, none, none, none] [] h := fun k => ih hc h (by omega) (by omega) a2 (fun w t w0 w1 t0 t1 => by rw [st, if_neg (fun y => k y.2.2)]; exact J w t w0 w1 t0 t1)
    refine ⟨⟨by omega, by omega, by omega, by omega⟩, fun c1 => ⟨by omega, skip (fun k => by have := k.1; omega)⟩, fun c1 => ⟨⟨by omega, by omega⟩, fun c2 => ⟨by omega, skip (fun k => k.2 c2)⟩, fun c2 => ⟨⟨by omega, by omega, by omega, by omega, by omega, by omega, by omega, by omega, by omega⟩, ih hc _ (by omega) (by omega) (fun p p1 p2 => (up_ne p1).trans (a2 p p1 p2)) (fun w t w0 w1 t0 t1 => ?_)⟩⟩⟩
    rw [up_same, st]
    by_cases q : 6 * w + t = 6 * N (520 + 5 * x2) + N (521 + 5 * x2)
    · rw [if_pos q, if_pos ⟨by omega, by omega, c1, c2⟩]
    · rw [if_neg q, if_neg (fun y => q (by rw [y.1, y.2.1]))]; exact J w t w0 w1 t0 t1
theorem L_Msettle2 {N : Int → Int} {h0 : am_H} {d : Int} {P : am_H → Prop} (O : OP N) (L : OL N) (F : OF N) (C : OA N) (eN : h0 57 = N) (H : ∀ h, (∀ p, p ≠ 61 → p ≠ 62 → h p = h0 p) → lJ N d h → (∀ u t, 0 ≤ u → u < N 0 → 0 ≤ t → t < 6 → h 62 (6 * u + t) = sd N d u t) → P h) : ∀ x2 h, 0 ≤ x2 → x2 ≤ 120 → (∀ p, p ≠ 61 → p ≠ 62 → h p = h0 p) → (∀ j, 0 ≤ j → j < x2 → h 61 j = -1) → am_x (am_cd 2) 167 (am_qv P) 0 2 [some (.inr (.inr 56)), some (.inl d), some (.inl x2), none, none, none, none] [] h := by
  refine upto 120 (fun x2 ih h a0 a1 a2 a3 => ?_)
  refine g_Mo_settle_2 ⟨fun hc => L_Msettle23 O L F C eN H 0 h (by omega) C.1.1 a2 (fun w t w0 w1 t0 t1 => ?_), fun hc => ⟨⟨by omega, by omega⟩, ih hc _ (by omega) (by omega) (fun p p1 p2 => (up_ne p1).trans (a2 p p1 p2)) (fun j j0 j1 => ?_)⟩⟩
  · rw [a3 _ (by omega) (by omega)]; rfl
  · rw [up_same]
    by_cases q : j = x2
    · rw [if_pos q]
    · rw [if_neg q]; exact a3 j j0 (by omega)
theorem S_Msettle {N : Int → Int} {h : am_H} {d : Int} {P : am_H → Prop} (O : OP N) (L : OL N) (F : OF N) (C : OA N) (eN : h 57 = N) (H : ∀ h1, (∀ p, p ≠ 61 → p ≠ 62 → h1 p = h p) → lJ N d h1 → (∀ u t, 0 ≤ u → u < N 0 → 0 ≤ t → t < 6 → h1 62 (6 * u + t) = sd N d u t) → P h1) : ∃ h_, am_cd 3 167 [.inr (.inr 56), .inl d] h none h_ ∧ P h_ :=
  e_Mo_settle (L_Msettle2 O L F C eN H 0 h (by omega) (by omega) (fun _ _ _ => rfl) (fun j _ _ => by omega))
