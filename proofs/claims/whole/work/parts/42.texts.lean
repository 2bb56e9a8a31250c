/-! texts: feeding -/
def fdT (tp : Int → Int) (e n : Int) (y : Int64) : Int → Int := fun j => if e ≤ j ∧ j < e + n then byt y (j - e) else tp j
theorem S_feed {h : am_H} {tp : Int → Int} {e n : Int} {y : Int64} {P : Int → am_H → Prop} (et : h 25 = tp) (ee : h 24 1 = e) (e0 : 0 ≤ e) (e1 : e ≤ 80) (hf : am_ok (h 0 13 + 1)) (H1 : ¬ (1 ≤ n ∧ n ≤ 8) → P (-100001) (am_up h 0 13 (h 0 13 + 1))) (H2 : (1 ≤ n ∧ n ≤ 8) → 80 < e + n → P (-100005) (am_up h 0 13 (h 0 13 + 1))) (H3 : (1 ≤ n ∧ n ≤ 8) → e + n ≤ 80 → ∀ h1, (∀ p, p ≠ 24 → p ≠ 25 → h1 p = h p) → (∀ j, j ≠ 1 → h1 24 j = h 24 j) → h1 24 1 = e + n → h1 25 = fdT tp e n y → P (e + n) h1) : ∃ a_ h_, am_cd 2 109 [.inr (.inr 0), .inl n, .inr (.inl y)] h (some (.inl a_)) h_ ∧ P a_ h_ := by
  refine e_At_feed ?_
  rw [ee]
  refine ⟨fun q => ⟨hf, H1 (by omega)⟩, fun q => ⟨fun q2 => ⟨by omega, fun q3 => am_lifti (Nat.le_of_ble_eq_true rfl) (e_Texts_append ?_), fun q3 => ⟨hf, H2 (by omega) q3⟩⟩, fun q2 => ⟨hf, H1 (by omega)⟩⟩⟩
  have key : ∀ x4 h', 0 ≤ x4 → x4 ≤ n → (∀ p, p ≠ 24 → p ≠ 25 → h' p = h p) → (∀ j, j ≠ 1 → h' 24 j = h 24 j) → h' 24 1 = e + x4 → h' 25 = fdT tp e x4 y → am_x (am_cd 0) 62 (am_qi P) 0 3 [some (.inr (.inr 24)), some (.inl n), some (.inr (.inl y)), none, some (.inl x4)] [] h' := by
    refine upto n (fun x4 ih h' a0 a1 a2 a3 a4 a5 => ?_)
    refine g_Texts_append_3 ?_
    rw [a4]
    refine ⟨fun hc => ?_, fun hc => ⟨⟨by omega, by omega, by omega, by omega⟩, ih hc _ (by omega) (by omega) (fun p p1 p2 => by rw [up_ne p1, up_ne p2]; exact a2 p p1 p2) (fun j j1 => by rw [up_same, if_neg j1, up_ne (by decide)]; exact a3 j j1) (by rw [up_same, if_pos rfl]; omega) ?_⟩⟩
    · have x : x4 = n := by omega
      subst x
      exact H3 (by omega) q3 h' a2 a3 a4 a5
    · rw [up_ne (by decide), up_f, a5]
      funext j
      rw [updr_e]
      unfold fdT
      by_cases k : j = e + x4
      · rw [if_pos k, if_pos (by omega), show j - e = x4 by omega]; rfl
      · rw [if_neg k]
        by_cases k2 : e ≤ j ∧ j < e + x4
        · rw [if_pos k2, if_pos (by omega)]
        · rw [if_neg k2, if_neg (by omega)]
  refine key 0 h (by omega) (by omega) (fun _ _ _ => rfl) (fun _ _ => rfl) (by omega) ?_
  funext j
  unfold fdT
  rw [if_neg (by omega), et]
theorem S_Mfeed {h : am_H} {tp : Int → Int} {e n : Int} {y : Int64} {P : Int → am_H → Prop} (et : h 63 = tp) (ee : h 56 14 = e) (e0 : 0 ≤ e) (e1 : e ≤ 80) (hf : am_ok (h 56 3 + 1)) (H1 : ¬ (1 ≤ n ∧ n ≤ 8) → P (-100001) (am_up h 56 3 (h 56 3 + 1))) (H2 : (1 ≤ n ∧ n ≤ 8) → 80 < e + n → P (-100005) (am_up h 56 3 (h 56 3 + 1))) (H3 : (1 ≤ n ∧ n ≤ 8) → e + n ≤ 80 → ∀ h1, (∀ p, p ≠ 56 → p ≠ 63 → h1 p = h p) → (∀ j, j ≠ 14 → h1 56 j = h 56 j) → h1 56 14 = e + n → h1 63 = fdT tp e n y → P (e + n) h1) : ∃ a_ h_, am_cd 2 128 [.inr (.inr 56), .inl n, .inr (.inl y)] h (some (.inl a_)) h_ ∧ P a_ h_ := by
  refine e_Mo_feed ?_
  rw [ee]
  refine ⟨fun q => ⟨by omega, fun q3 => ?_, fun q3 => ⟨hf, H2 q q3⟩⟩, fun q => ⟨hf, H1 q⟩⟩
  have key : ∀ x4 h', 0 ≤ x4 → x4 ≤ n → (∀ p, p ≠ 56 → p ≠ 63 → h' p = h p) → (∀ j, j ≠ 14 → h' 56 j = h 56 j) → h' 56 14 = e + x4 → h' 63 = fdT tp e x4 y → am_x (am_cd 1) 128 (am_qi P) 0 38 [some (.inr (.inr 56)), some (.inl n), some (.inr (.inl y)), none, some (.inl x4)] [] h' := by
    refine upto n (fun x4 ih h' a0 a1 a2 a3 a4 a5 => ?_)
    refine g_Mo_feed_38 ?_
    rw [a4]
    refine ⟨fun hc => ?_, fun hc => ⟨⟨by omega, by omega, by omega, by omega⟩, ih hc _ (by omega) (by omega) (fun p p1 p2 => by rw [up_ne p1, up_ne p2]; exact a2 p p1 p2) (fun j j1 => by rw [up_same, if_neg j1, up_ne (by decide)]; exact a3 j j1) (by rw [up_same, if_pos rfl]; omega) ?_⟩⟩
    · have x : x4 = n := by omega
      subst x
      exact H3 q q3 h' a2 a3 a4 a5
    · rw [up_ne (by decide), up_f, a5, byt_m a0 (by omega)]
      funext j
      rw [updr_e]
      unfold fdT
      by_cases k : j = e + x4
      · rw [if_pos k, if_pos (by omega), show j - e = x4 by omega]
      · rw [if_neg k]
        by_cases k2 : e ≤ j ∧ j < e + x4
        · rw [if_pos k2, if_pos (by omega)]
        · rw [if_neg k2, if_neg (by omega)]
  refine key 0 h (by omega) (by omega) (fun _ _ _ => rfl) (fun _ _ => rfl) (by omega) ?_
  funext j
  unfold fdT
  rw [if_neg (by omega), et]
theorem S_text {h : am_H} {tp : Int → Int} {t e : Int} {P : Int → am_H → Prop} (et : h 25 = tp) (ee : h 24 1 = e) (e0 : 0 ≤ e) (e1 : e ≤ 80) (hf : am_ok (h 0 13 + 1)) (H1 : ¬ (0 ≤ t ∧ t < 4) → P (-100001) (am_up h 0 13 (h 0 13 + 1))) (H2 : (0 ≤ t ∧ t < 4) → flp tp e 0 0 0 ≠ -1 → ∀ h1, (∀ p, p ≠ 24 → h1 p = h p) → (∀ j, j ≠ 1 → h1 24 j = h 24 j) → h1 24 1 = 0 → P (flp tp e 0 0 0) h1) (H3 : (0 ≤ t ∧ t < 4) → flp tp e 0 0 0 = -1 → ∀ h1 n, 0 ≤ n → n ≤ 12 → psn tp n.toNat = e → OT (TT tp) n → (∀ p, p ≠ 24 → p ≠ 26 → p ≠ 27 → p ≠ 28 → p ≠ 29 → p ≠ 30 → h1 p = h p) → (∀ j, j ≠ 1 → h1 24 j = h 24 j) → h1 24 1 = 0 → TC h1 t n (TT tp) → (∀ u m T, 0 ≤ u → u ≠ t → m ≤ 12 → TC h u m T → TC h1 u m T) → P (-1) h1) : ∃ a_ h_, am_cd 5 210 [.inr (.inr 0), .inl t] h (some (.inl a_)) h_ ∧ P a_ h_ := by
  refine e_At_text ⟨fun q => am_lifti (Nat.le_of_ble_eq_true rfl) (e_Texts_readInto (am_lifti (Nat.le_of_ble_eq_true rfl) (S_faultOfTape (by omega) (by omega) ?_))), fun q => ⟨hf, H1 q⟩⟩
  rw [et, ee]
  refine ⟨fun k => H2 q k _ (fun p hp => up_ne hp) (fun j hj => by rw [up_same, if_neg hj]) (by rw [up_same, if_pos rfl]), fun k => am_liftv (Nat.le_of_ble_eq_true rfl) (S_keep et ee e0 e1 q.1 q.2 k (fun h1 n n0 n1 pn kk e26 ot => ?_))⟩
  have u : ∀ p, p ≠ 24 → p ≠ 26 → am_up (am_up h1 26 t n) 24 1 0 p = h1 p := fun p p1 p2 => by rw [up_ne p1, up_ne p2]
  have u26 : ∀ j, am_up (am_up h1 26 t n) 24 1 0 26 j = if j = t then n else h 26 j := fun j => by rw [up_ne (by decide), up_same, e26]
  have h24 : h1 24 = h 24 := kk.1 24 (by decide) (by decide) (by decide) (by decide) (by decide)
  rw [k]
  refine H3 q k _ n n0 n1 pn ot (fun p p1 p2 p3 p4 p5 p6 => by rw [u p p1 p2]; exact kk.1 p p2 p3 p4 p5 p6) (fun j hj => by rw [up_same, if_neg hj, up_ne (by decide), h24]) (by rw [up_same, if_pos rfl]) ⟨by rw [u26, if_pos rfl], fun c c0 c1 => ?_⟩ (fun v m T v0 vt m1 tc => ⟨by rw [u26, if_neg vt]; exact tc.1, fun c c0 c1 => ?_⟩)
  · rw [u 27 (by decide) (by decide), u 28 (by decide) (by decide), u 29 (by decide) (by decide), u 30 (by decide) (by decide)]; exact kk.2.1 c c0 c1
  · have o := kk.2.2 v c v0 vt c0 (by omega)
    have w := tc.2 c c0 c1
    rw [u 27 (by decide) (by decide), u 28 (by decide) (by decide), u 29 (by decide) (by decide), u 30 (by decide) (by decide), o.1, o.2.1, o.2.2.1, o.2.2.2]; exact w
