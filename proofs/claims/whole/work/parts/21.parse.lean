/-! texts of changes are read -/
def cs (s b : Int) : Bool := if s = 0 then decide (97 ≤ b ∧ b ≤ 122) else if s = 1 then decide (b = 62) else if s = 2 then decide ((97 ≤ b ∧ b ≤ 122) ∨ b = 48) else if s = 3 then decide (b = 47 ∨ b = 59) else if s = 4 ∨ s = 6 then decide ((97 ≤ b ∧ b ≤ 122) ∨ b = 35 ∨ b = 42) else if s = 5 then decide (b = 95) else decide (b = 59)
theorem S_canStand {h : am_H} {s b : Int} {P : Int → am_H → Prop} (K1 : cs s b = true → P 1 h) (K0 : cs s b = false → P 0 h) : ∃ a_ h_, am_cd 2 102 [.inl s, .inl b] h (some (.inl a_)) h_ ∧ P a_ h_ := by
  refine e_Texts_canStand ?_
  repeat' (first | refine And.intro ?_ ?_ | intro _)
  all_goals first
    | exact K1 (by unfold cs; simp_all <;> omega)
    | exact K0 (by unfold cs; simp_all <;> omega)
/-- the place of the fault; -1: none -/
def flt (tp : Int → Int) (e : Int) : Nat → Int → Int → Int
  | 0, s, _ => if s = 0 then -1 else e
  | n + 1, s, d => if d = 12 then e - (n + 1) else if cs s (tp (e - (n + 1))) = true then (if tp (e - (n + 1)) = 59 then flt tp e n 0 (d + 1) else flt tp e n (s + 1) d) else e - (n + 1)
def flp (tp : Int → Int) (e p s d : Int) : Int := flt tp e (e - p).toNat s d
theorem flp_e {tp : Int → Int} {e p s d : Int} (h : e ≤ p) : flp tp e p s d = if s = 0 then -1 else e := by
  unfold flp
  rw [show (e - p).toNat = 0 by omega]; rfl
theorem flp_s {tp : Int → Int} {e p s d : Int} (h : p < e) : flp tp e p s d = if d = 12 then p else if cs s (tp p) = true then (if tp p = 59 then flp tp e (p + 1) 0 (d + 1) else flp tp e (p + 1) (s + 1) d) else p := by
  unfold flp
  rw [show (e - p).toNat = (e - (p + 1)).toNat + 1 by omega]
  show (if d = 12 then e - (((e - (p + 1)).toNat : Int) + 1) else if cs s (tp (e - (((e - (p + 1)).toNat : Int) + 1))) = true then (if tp (e - (((e - (p + 1)).toNat : Int) + 1)) = 59 then flt tp e (e - (p + 1)).toNat 0 (d + 1) else flt tp e (e - (p + 1)).toNat (s + 1) d) else e - (((e - (p + 1)).toNat : Int) + 1)) = _
  rw [show e - (((e - (p + 1)).toNat : Int) + 1) = p by omega]
theorem flp_ok {tp : Int → Int} {e p s d : Int} (h : p < e) (hd : d ≠ 12) (hc : cs s (tp p) = true) (h5 : tp p ≠ 59) : flp tp e p s d = flp tp e (p + 1) (s + 1) d := by
  rw [flp_s h, if_neg hd, if_pos hc, if_neg h5]
theorem flp_end {tp : Int → Int} {e p s d : Int} (h : p < e) (hd : d ≠ 12) (hc : cs s (tp p) = true) (h5 : tp p = 59) : flp tp e p s d = flp tp e (p + 1) 0 (d + 1) := by
  rw [flp_s h, if_neg hd, if_pos hc, if_pos h5]
theorem flp_bad {tp : Int → Int} {e p s d : Int} (hp : p ≤ e) (hs : s ≠ 0) (hc : p < e → cs s (tp p) = false) : flp tp e p s d = p := by
  by_cases h : p < e
  · rw [flp_s h, hc h]
    split
    · rfl
    · rw [if_neg (by simp)]
  · rw [flp_e (by omega), if_neg hs]; omega
/-- a step, where there is no fault behind -/
theorem flp_m {tp : Int → Int} {e p s d : Int} (hp : p ≤ e) (p0 : 0 ≤ p) (hs : s ≠ 0 ∨ p < e) (H : flp tp e p s d = -1) : p < e ∧ d ≠ 12 ∧ cs s (tp p) = true ∧ (tp p = 59 → flp tp e (p + 1) 0 (d + 1) = -1) ∧ (tp p ≠ 59 → flp tp e (p + 1) (s + 1) d = -1) := by
  by_cases h : p < e
  · rw [flp_s h] at H
    by_cases q : d = 12
    · rw [if_pos q] at H; omega
    · rw [if_neg q] at H
      by_cases c : cs s (tp p) = true
      · rw [if_pos c] at H
        refine ⟨h, q, c, fun k => ?_, fun k => ?_⟩
        · rw [if_pos k] at H; exact H
        · rw [if_neg k] at H; exact H
      · rw [if_neg c] at H; omega
  · rw [flp_e (by omega)] at H
    by_cases q : s = 0
    · omega
    · rw [if_neg q] at H; omega
theorem L_faultOfTape {h : am_H} {P : Int → am_H → Prop} (e1 : h 24 1 ≤ 80) (H : P (flp (h 25) (h 24 1) 0 0 0) h) : ∀ x3 x1 x2, 0 ≤ x3 → x3 ≤ h 24 1 → 0 ≤ x1 → x1 ≤ x3 → 0 ≤ x2 → x2 ≤ x3 → flp (h 25) (h 24 1) x3 x1 x2 = flp (h 25) (h 24 1) 0 0 0 → am_x (am_cd 2) 149 (am_qi P) 0 6 [some (.inr (.inr 24)), some (.inl x1), some (.inl x2), some (.inl x3)] [] h := by
  refine upto (h 24 1) (fun x3 ih x1 x2 a0 a1 a2 a3 a4 a5 J => ?_)
  refine g_Texts_faultOfTape_6 ⟨fun hc => ⟨fun c => ?_, fun c => ?_⟩, fun hc => ⟨fun c => ?_, fun c => ⟨by omega, ?_⟩⟩⟩
  · rw [flp_e hc, if_neg c] at J; rw [J]; exact H
  · rw [flp_e hc, if_pos c] at J; rw [J]; exact H
  · rw [flp_s hc, if_pos c] at J; rw [J]; exact H
  · rw [flp_s hc, if_neg c] at J
    refine am_lifti (Nat.le_of_ble_eq_true rfl) (S_canStand (fun k => ⟨fun _ => ⟨fun q => ⟨⟨by omega, by omega, by omega⟩, ih hc _ _ (by omega) (by omega) (by omega) (by omega) (by omega) (by omega) ?_⟩, fun q => ⟨⟨by omega, by omega⟩, ih hc _ _ (by omega) (by omega) (by omega) (by omega) (by omega) (by omega) ?_⟩⟩, fun z => by omega⟩) (fun k => ⟨fun z => absurd rfl z, fun _ => ?_⟩))
    · rw [if_pos k, if_neg q] at J; rw [show x2 + 0 = x2 by omega]; exact J
    · rw [if_pos k, if_pos q] at J; exact J
    · rw [if_neg (by rw [k]; simp)] at J; rw [J]; exact H
theorem S_faultOfTape {h : am_H} {P : Int → am_H → Prop} (e0 : 0 ≤ h 24 1) (e1 : h 24 1 ≤ 80) (H : P (flp (h 25) (h 24 1) 0 0 0) h) : ∃ a_ h_, am_cd 3 149 [.inr (.inr 24)] h (some (.inl a_)) h_ ∧ P a_ h_ :=
  e_Texts_faultOfTape (L_faultOfTape e1 H 0 0 0 (by omega) e0 (by omega) (by omega) (by omega) (by omega) rfl)
def sg (b : Int) : Int := if 97 ≤ b ∧ b ≤ 122 then b - 97 else if b = 35 then 26 else if b = 42 then 27 else -1
def ln (tp : Int → Int) (p : Int) : Int := if tp (p + 3) = 47 then 8 else 4
def ent (tp : Int → Int) (p i : Int) : Int := if i = 0 then sg (tp p) else if i = 1 then sg (tp (p + 2)) else if i = 2 then (if tp (p + 3) = 47 then sg (tp (p + 4)) else 27) else (if tp (p + 3) = 47 then sg (tp (p + 6)) else 27)
def psn (tp : Int → Int) : Nat → Int
  | 0 => 0
  | c + 1 => psn tp c + ln tp (psn tp c)
def TT (tp : Int → Int) (c i : Int) : Int := ent tp (psn tp c.toNat) i
theorem ln_4 (tp : Int → Int) (p : Int) : 4 ≤ ln tp p ∧ ln tp p ≤ 8 := by unfold ln; split <;> omega
theorem psn_s {tp : Int → Int} {c : Int} (h : 0 ≤ c) : psn tp (c + 1).toNat = psn tp c.toNat + ln tp (psn tp c.toNat) := by
  rw [show (c + 1).toNat = c.toNat + 1 by omega]; rfl
theorem psn_mono (tp : Int → Int) : ∀ (k c : Nat), psn tp c + 4 * k ≤ psn tp (c + k)
  | 0, c => by show psn tp c + 4 * 0 ≤ psn tp c; omega
  | k + 1, c => by
    have := psn_mono tp k c
    have := ln_4 tp (psn tp (c + k))
    show _ ≤ psn tp (c + k) + ln tp (psn tp (c + k))
    omega
theorem psn_inj {tp : Int → Int} {c d : Int} (c0 : 0 ≤ c) (d0 : 0 ≤ d) (h : psn tp c.toNat = psn tp d.toNat) : c = d := by
  rcases (show c < d ∨ d < c ∨ c = d by omega) with q | q | q
  · have := psn_mono tp (d - c).toNat c.toNat
    rw [show c.toNat + (d - c).toNat = d.toNat by omega] at this
    omega
  · have := psn_mono tp (c - d).toNat d.toNat
    rw [show d.toNat + (c - d).toNat = c.toNat by omega] at this
    omega
  · exact q
/-- a change without a fault -/
theorem flp_ch {tp : Int → Int} {e p d : Int} (hp : p < e) (p0 : 0 ≤ p) (H : flp tp e p 0 d = -1) : p + ln tp p ≤ e ∧ d ≠ 12 ∧ flp tp e (p + ln tp p) 0 (d + 1) = -1 ∧ -1 ≤ ent tp p 1 ∧ ent tp p 1 ≤ 25 := by
  obtain ⟨a1, a2, a3, -, a5⟩ := flp_m (by omega) p0 (.inr hp) H
  have t0 : 97 ≤ tp p ∧ tp p ≤ 122 := by simpa [cs] using a3
  obtain ⟨b1, -, b3, -, b5⟩ := flp_m (by omega) (by omega) (.inl (by omega)) (a5 (by omega))
  have t1 : tp (p + 1) = 62 := by simpa [cs] using b3
  obtain ⟨c1, -, c3, -, c5⟩ := flp_m (by omega) (by omega) (.inl (by omega)) (b5 (by omega))
  have t2 : (97 ≤ tp (p + 1 + 1) ∧ tp (p + 1 + 1) ≤ 122) ∨ tp (p + 1 + 1) = 48 := by simpa [cs] using c3
  obtain ⟨d1, -, d3, d4, d5⟩ := flp_m (by omega) (by omega) (.inl (by omega)) (c5 (by omega))
  have t3 : tp (p + 1 + 1 + 1) = 47 ∨ tp (p + 1 + 1 + 1) = 59 := by simpa [cs] using d3
  have e1 : -1 ≤ ent tp p 1 ∧ ent tp p 1 ≤ 25 := by
    unfold ent sg
    rw [if_neg (by omega), if_pos rfl, show p + 2 = p + 1 + 1 by omega]
    split
    · omega
    · rw [if_neg (by omega), if_neg (by omega)]; omega
  unfold ln
  rw [show p + 3 = p + 1 + 1 + 1 by omega]
  rcases t3 with t3 | t3
  · rw [if_pos t3]
    obtain ⟨f1, -, f3, -, f5⟩ := flp_m (by omega) (by omega) (.inl (by omega)) (d5 (by omega))
    have t4 : (97 ≤ tp (p + 1 + 1 + 1 + 1) ∧ tp (p + 1 + 1 + 1 + 1) ≤ 122) ∨ tp (p + 1 + 1 + 1 + 1) = 35 ∨ tp (p + 1 + 1 + 1 + 1) = 42 := by simpa [cs] using f3
    obtain ⟨g1, -, g3, -, g5⟩ := flp_m (by omega) (by omega) (.inl (by omega)) (f5 (by omega))
    have t5 : tp (p + 1 + 1 + 1 + 1 + 1) = 95 := by simpa [cs] using g3
    obtain ⟨i1, -, i3, -, i5⟩ := flp_m (by omega) (by omega) (.inl (by omega)) (g5 (by omega))
    have t6 : (97 ≤ tp (p + 1 + 1 + 1 + 1 + 1 + 1) ∧ tp (p + 1 + 1 + 1 + 1 + 1 + 1) ≤ 122) ∨ tp (p + 1 + 1 + 1 + 1 + 1 + 1) = 35 ∨ tp (p + 1 + 1 + 1 + 1 + 1 + 1) = 42 := by simpa [cs] using i3
    obtain ⟨j1, -, j3, j4, -⟩ := flp_m (by omega) (by omega) (.inl (by omega)) (i5 (by omega))
    have t7 : tp (p + 1 + 1 + 1 + 1 + 1 + 1 + 1) = 59 := by simpa [cs] using j3
    refine ⟨by omega, a2, ?_, e1⟩
    have := j4 t7
    rw [show p + 1 + 1 + 1 + 1 + 1 + 1 + 1 + 1 = p + 8 by omega] at this
    exact this
  · rw [if_neg (by omega)]
    refine ⟨by omega, a2, ?_, e1⟩
    have := d4 t3
    rw [show p + 1 + 1 + 1 + 1 = p + 4 by omega] at this
    exact this
theorem S_signOf {h : am_H} {b : Int} {P : Int → am_H → Prop} (H : P (sg b) h) : ∃ a_ h_, am_cd 2 103 [.inl b] h (some (.inl a_)) h_ ∧ P a_ h_ := by
  unfold sg at H
  refine e_Texts_signOf ⟨fun c => ⟨by omega, ?_⟩, fun c => ⟨fun d => ⟨fun e => ?_, fun e => ?_⟩, fun d => ?_⟩⟩
  · rw [if_pos c] at H; exact H
  · rw [if_neg c, if_neg d, if_neg e] at H; exact H
  · rw [if_neg c, if_neg d, if_pos e] at H; exact H
  · rw [if_neg c, if_pos d] at H; exact H
/-- behind keep: text t has the changes of the tape; what else stands is as it was -/
def kp (tp : Int → Int) (t n : Int) (h0 h : am_H) : Prop := (∀ p, p ≠ 26 → p ≠ 27 → p ≠ 28 → p ≠ 29 → p ≠ 30 → h p = h0 p) ∧ (∀ c, 0 ≤ c → c < n → h 27 (12 * t + c) = TT tp c 0 ∧ h 28 (12 * t + c) = TT tp c 1 ∧ h 29 (12 * t + c) = TT tp c 2 ∧ h 30 (12 * t + c) = TT tp c 3) ∧ (∀ u c, 0 ≤ u → u ≠ t → 0 ≤ c → c < 12 → h 27 (12 * u + c) = h0 27 (12 * u + c) ∧ h 28 (12 * u + c) = h0 28 (12 * u + c) ∧ h 29 (12 * u + c) = h0 29 (12 * u + c) ∧ h 30 (12 * u + c) = h0 30 (12 * u + c))
theorem kp_s {tp : Int → Int} {t n : Int} {h0 h : am_H} {v0 v1 v2 v3 : Int} (t0 : 0 ≤ t) (n0 : 0 ≤ n) (n1 : n < 12) (K : kp tp t n h0 h) (e0 : v0 = TT tp n 0) (e1 : v1 = TT tp n 1) (e2 : v2 = TT tp n 2) (e3 : v3 = TT tp n 3) : kp tp t (n + 1) h0 (am_up (am_up (am_up (am_up h 27 (12 * t + n) v0) 28 (12 * t + n) v1) 29 (12 * t + n) v2) 30 (12 * t + n) v3) := by
  have x27 : ∀ j, am_up (am_up (am_up (am_up h 27 (12 * t + n) v0) 28 (12 * t + n) v1) 29 (12 * t + n) v2) 30 (12 * t + n) v3 27 j = if j = 12 * t + n then v0 else h 27 j := fun j => by rw [up_ne (by decide), up_ne (by decide), up_ne (by decide), up_same]
  have x28 : ∀ j, am_up (am_up (am_up (am_up h 27 (12 * t + n) v0) 28 (12 * t + n) v1) 29 (12 * t + n) v2) 30 (12 * t + n) v3 28 j = if j = 12 * t + n then v1 else h 28 j := fun j => by rw [up_ne (by decide), up_ne (by decide), up_same, up_ne (by decide)]
  have x29 : ∀ j, am_up (am_up (am_up (am_up h 27 (12 * t + n) v0) 28 (12 * t + n) v1) 29 (12 * t + n) v2) 30 (12 * t + n) v3 29 j = if j = 12 * t + n then v2 else h 29 j := fun j => by rw [up_ne (by decide), up_same, up_ne (by decide), up_ne (by decide)]
  have x30 : ∀ j, am_up (am_up (am_up (am_up h 27 (12 * t + n) v0) 28 (12 * t + n) v1) 29 (12 * t + n) v2) 30 (12 * t + n) v3 30 j = if j = 12 * t + n then v3 else h 30 j := fun j => by rw [up_same, up_ne (by decide), up_ne (by decide), up_ne (by decide)]
  obtain ⟨k1, k2, k3⟩ := K
  refine ⟨fun p p1 p2 p3 p4 p5 => by rw [up_ne p5, up_ne p4, up_ne p3, up_ne p2]; exact k1 p p1 p2 p3 p4 p5, fun c c0 c1 => ?_, fun u c u0 u1 c0 c1 => ?_⟩
  · rw [x27, x28, x29, x30]
    by_cases q : c = n
    · rw [if_pos (by omega), if_pos (by omega), if_pos (by omega), if_pos (by omega), q]; exact ⟨e0, e1, e2, e3⟩
    · rw [if_neg (by omega), if_neg (by omega), if_neg (by omega), if_neg (by omega)]; exact k2 c c0 (by omega)
  · rw [x27, x28, x29, x30, if_neg (by omega), if_neg (by omega), if_neg (by omega), if_neg (by omega)]; exact k3 u c u0 u1 c0 c1
theorem L_keep {h0 : am_H} {tp : Int → Int} {t e : Int} {P : am_H → Prop} (et : h0 25 = tp) (ee : h0 24 1 = e) (e0 : 0 ≤ e) (e1 : e ≤ 80) (t0 : 0 ≤ t) (t1 : t < 4) (H : ∀ h n, 0 ≤ n → n ≤ 12 → psn tp n.toNat = e → kp tp t n h0 h → h 26 = h0 26 → OT (TT tp) n → P (am_up h 26 t n)) : ∀ x2 h, 0 ≤ x2 → x2 ≤ 12 → psn tp x2.toNat ≤ e → flp tp e (psn tp x2.toNat) 0 x2 = -1 → kp tp t x2 h0 h → h 26 = h0 26 → OT (TT tp) x2 → am_x (am_cd 2) 150 (am_qv P) 0 4 [some (.inr (.inr 24)), some (.inl t), some (.inl x2), some (.inl (psn tp x2.toNat)), none, none] [] h := by
  refine upto 12 (fun x2 ih h a0 a1 a2 a3 K k26 OO => ?_)
  have t25 : h 25 = tp := (K.1 25 (by decide) (by decide) (by decide) (by decide) (by decide)).trans et
  have t24 : h 24 1 = e := by rw [K.1 24 (by decide) (by decide) (by decide) (by decide) (by decide)]; exact ee
  have p0 : 0 ≤ psn tp x2.toNat := by have := psn_mono tp x2.toNat 0; rw [Nat.zero_add] at this; have z : psn tp 0 = 0 := rfl; omega
  refine g_Texts_keep_4 ?_
  rw [t24, t25]
  by_cases q : psn tp x2.toNat < e
  · obtain ⟨b1, b2, b3, b4, b5⟩ := flp_ch q p0 a3
    have l4 := ln_4 tp (psn tp x2.toNat)
    have i := fun h' K' k' => ih (by omega) h' (by omega) (by omega) (by rw [psn_s a0]; exact b1) (by rw [psn_s a0]; exact b3) K' k' (fun c c0 c1 => by
      rcases (show c < x2 ∨ c = x2 by omega) with z | z
      · exact OO c c0 z
      · rw [z]; exact ⟨b4, b5⟩)
    rw [psn_s a0] at i
    refine ⟨by omega, fun c => by omega, fun c => ⟨fun d => by omega, fun d => ⟨⟨by omega, by omega⟩, fun f => ?_, fun f => ⟨by omega, fun g => ?_, fun g => ?_⟩⟩⟩⟩
    · have e47 : ¬ tp (psn tp x2.toNat + 3) = 47 := by rw [show psn tp x2.toNat + 3 = 3 + psn tp x2.toNat by omega]; exact f
      have el : ln tp (psn tp x2.toNat) = 4 := by unfold ln; rw [if_neg e47]
      rw [el] at i
      refine ⟨⟨by omega, by omega, by omega⟩, am_lifti (Nat.le_of_ble_eq_true rfl) (S_signOf ⟨⟨by omega, by omega, by omega⟩, am_lifti (Nat.le_of_ble_eq_true rfl) (S_signOf ⟨by omega, i _ (kp_s t0 a0 (by omega) K ?_ ?_ ?_ ?_) ?_⟩)⟩)⟩
      · unfold TT ent; rw [if_pos rfl]
      · unfold TT ent; rw [if_neg (by omega), if_pos rfl, t25, show 2 + psn tp x2.toNat = psn tp x2.toNat + 2 by omega]
      · unfold TT ent; rw [if_neg (by omega), if_neg (by omega), if_pos rfl, if_neg e47]
      · unfold TT ent; rw [if_neg (by omega), if_neg (by omega), if_neg (by omega), if_neg e47]
      · rw [up_ne (by decide), up_ne (by decide), up_ne (by decide), up_ne (by decide)]; exact k26
    · exfalso
      have e47 : tp (psn tp x2.toNat + 3) = 47 := by rw [show psn tp x2.toNat + 3 = 3 + psn tp x2.toNat by omega]; exact f
      have el : ln tp (psn tp x2.toNat) = 8 := by unfold ln; rw [if_pos e47]
      omega
    · have e47 : tp (psn tp x2.toNat + 3) = 47 := by rw [show psn tp x2.toNat + 3 = 3 + psn tp x2.toNat by omega]; exact f
      have el : ln tp (psn tp x2.toNat) = 8 := by unfold ln; rw [if_pos e47]
      rw [el] at i
      refine ⟨⟨by omega, by omega, by omega⟩, am_lifti (Nat.le_of_ble_eq_true rfl) (S_signOf ⟨⟨by omega, by omega, by omega⟩, am_lifti (Nat.le_of_ble_eq_true rfl) (S_signOf ⟨by omega, am_lifti (Nat.le_of_ble_eq_true rfl) (S_signOf ⟨⟨by omega, by omega⟩, am_lifti (Nat.le_of_ble_eq_true rfl) (S_signOf ⟨by omega, i _ (kp_s t0 a0 (by omega) K ?_ ?_ ?_ ?_) ?_⟩)⟩)⟩)⟩)⟩
      · unfold TT ent; rw [if_pos rfl]
      · unfold TT ent; rw [if_neg (by omega), if_pos rfl, t25, show 2 + psn tp x2.toNat = psn tp x2.toNat + 2 by omega]
      · unfold TT ent; rw [if_neg (by omega), if_neg (by omega), if_pos rfl, if_pos e47, up_ne (by decide), t25, show 4 + psn tp x2.toNat = psn tp x2.toNat + 4 by omega]
      · unfold TT ent; rw [if_neg (by omega), if_neg (by omega), if_neg (by omega), if_pos e47, up_ne (by decide), up_ne (by decide), t25, show 6 + psn tp x2.toNat = psn tp x2.toNat + 6 by omega]
      · rw [up_ne (by decide), up_ne (by decide), up_ne (by decide), up_ne (by decide)]; exact k26
  · exact ⟨by omega, fun _ => ⟨by omega, H h x2 a0 a1 (by omega) K k26 OO⟩, fun c => by omega⟩
theorem S_keep {h : am_H} {tp : Int → Int} {t e : Int} {P : am_H → Prop} (et : h 25 = tp) (ee : h 24 1 = e) (e0 : 0 ≤ e) (e1 : e ≤ 80) (t0 : 0 ≤ t) (t1 : t < 4) (hf : flp tp e 0 0 0 = -1) (H : ∀ h1 n, 0 ≤ n → n ≤ 12 → psn tp n.toNat = e → kp tp t n h h1 → h1 26 = h 26 → OT (TT tp) n → P (am_up h1 26 t n)) : ∃ h_, am_cd 3 150 [.inr (.inr 24), .inl t] h none h_ ∧ P h_ :=
  e_Texts_keep (L_keep et ee e0 e1 t0 t1 H 0 h (by omega) (by omega) e0 hf ⟨fun _ _ _ _ _ _ => rfl, fun c _ _ => by omega, fun u c _ _ _ _ => ⟨rfl, rfl, rfl, rfl⟩⟩ rfl (fun c _ _ => by omega))
