/-! sheets -/
theorem lc_add {a b z : Int} (a0 : 0 ≤ a) (a1 : am_ok a) (b0 : 0 ≤ b) (b1 : am_ok b) (z0 : 0 ≤ z) (z1 : z ≤ 20) : am_lc ((Int64.ofInt a) + (Int64.ofInt b)) (Int64.ofInt z) ≤ 0 ↔ a + b ≤ z := by
  have e1 : (Int64.ofInt a + Int64.ofInt b) = Int64.ofInt (a + b) := (Int64.ofInt_add a b).symm
  have t1 : (Int64.ofInt (a + b)).toInt = a + b := Int64.toInt_ofInt_of_le (by omega) (by omega)
  have t2 : (Int64.ofInt z).toInt = z := Int64.toInt_ofInt_of_le (by omega) (by omega)
  rw [e1]
  unfold am_lc
  by_cases q : a + b ≤ z
  · rw [if_neg (by rw [Int64.lt_iff_toInt_lt, t1, t2]; omega)]
    constructor
    · intro _; exact q
    · intro _; split <;> omega
  · rw [if_pos (by rw [Int64.lt_iff_toInt_lt, t1, t2]; omega)]
    omega
def trn (w v : Int) : Int := if w = 8 then (Int32.ofInt v).toInt8.toInt else if w = 16 then (Int32.ofInt v).toInt16.toInt else v
def lyC (c : Int → Int) (s : Int) : Int → Int := fun j => if 20 * s ≤ j ∧ j < 20 * s + 20 then 0 else c j
def mvC (c : Int → Int) (a b n : Int) : Int → Int := fun j => if b ≤ j ∧ j < b + n then c (a + (j - b)) else c j
def isB (b : Int) : Prop := b = 0 ∨ b = 8 ∨ b = 16 ∨ b = 32
theorem S_sheet {h : am_H} {w z c : Int → Int} {s b n : Int} {P : Int → am_H → Prop} (ew : h 48 = w) (ez : h 49 = z) (ec : h 50 = c) (hf : am_ok (h 0 13 + 1)) (H1 : ¬ ((0 ≤ s ∧ s < 4) ∧ isB b) → P (-100001) (am_up h 0 13 (h 0 13 + 1))) (H2 : ((0 ≤ s ∧ s < 4) ∧ isB b) → n < 0 → P (-100003) (am_up h 0 13 (h 0 13 + 1))) (H3 : ((0 ≤ s ∧ s < 4) ∧ isB b) → 20 < n → P (-100001) (am_up h 0 13 (h 0 13 + 1))) (H4 : ((0 ≤ s ∧ s < 4) ∧ isB b) → 0 ≤ n → n ≤ 20 → ∀ h1, (∀ p, p ≠ 48 → p ≠ 49 → p ≠ 50 → h1 p = h p) → h1 48 = updr w s b → h1 49 = updr z s (if b = 0 then 0 else n) → h1 50 = lyC c s → P (if b = 0 then 0 else n) h1) : ∃ a_ h_, am_cd 4 188 [.inr (.inr 0), .inl s, .inl b, .inl n] h (some (.inl a_)) h_ ∧ P a_ h_ := by
  refine e_At_sheet ⟨fun q => ⟨fun q2 => ⟨hf, H1 (fun k => by unfold isB at k; omega)⟩, fun q2 => ?_⟩, fun q => ⟨hf, H1 (fun k => q k.1)⟩⟩
  have ib : isB b := by unfold isB; omega
  refine ⟨fun q3 => ⟨fun q4 => am_lifti (Nat.le_of_ble_eq_true rfl) (e_Sheets_lay ⟨q, ?_⟩), fun q4 => ⟨hf, H3 ⟨q, ib⟩ q4⟩⟩, fun q3 => ⟨hf, H2 ⟨q, ib⟩ q3⟩⟩
  have go : ∀ m, m = (if b = 0 then 0 else n) → (am_ok (s * 20) ∧ am_ok (s + 1) ∧ am_ok ((s + 1) * 20)) ∧ ∃ h6, am_cd 2 137 [.inr (.inr 50), .inl (s * 20), .inl ((s + 1) * 20), .inl 0] (am_up (am_up h 48 s b) 49 s m) none h6 ∧ P (h6 49 s) h6 := by
    intro m hm
    refine ⟨⟨by omega, by omega, by omega⟩, am_liftv (Nat.le_of_ble_eq_true rfl) (S_fillR (n0 := 80) (fun h => by with_unfolding_all rfl) (by decide) (by decide) (by omega) (by omega) (by omega) (fun h1 f1 w1 => ?_))⟩
    have e49 : h1 49 = updr z s m := by rw [f1 49 (by decide), up_f, up_ne (by decide), ez]
    have : h1 49 s = m := by rw [e49, updr_e, if_pos rfl]
    rw [this, hm]
    rw [hm] at e49
    refine H4 ⟨q, ib⟩ q3 q4 h1 (fun p p1 p2 p3 => by rw [f1 p p3, up_ne p2, up_ne p1]) ?_ e49 ?_
    · rw [f1 48 (by decide), up_ne (by decide), up_f, ew]
    · funext j
      rw [w1 j, up_ne (by decide), up_ne (by decide), ec]
      unfold lyC
      by_cases k : 20 * s ≤ j ∧ j < 20 * s + 20
      · rw [if_pos k, if_pos (by omega)]
      · rw [if_neg k, if_neg (by omega)]
  exact ⟨fun k => go n (by rw [if_neg k]), fun k => go 0 (by rw [if_pos k])⟩
theorem S_Msheet {h : am_H} {w z c : Int → Int} {s b n : Int} {P : Int → am_H → Prop} (ew : h 76 = w) (ez : h 77 = z) (ec : h 78 = c) (hf : am_ok (h 56 3 + 1)) (H1 : ¬ ((0 ≤ s ∧ s < 4) ∧ isB b) → P (-100001) (am_up h 56 3 (h 56 3 + 1))) (H2 : ((0 ≤ s ∧ s < 4) ∧ isB b) → n < 0 → P (-100003) (am_up h 56 3 (h 56 3 + 1))) (H3 : ((0 ≤ s ∧ s < 4) ∧ isB b) → 20 < n → P (-100001) (am_up h 56 3 (h 56 3 + 1))) (H4 : ((0 ≤ s ∧ s < 4) ∧ isB b) → 0 ≤ n → n ≤ 20 → ∀ h1, (∀ p, p ≠ 76 → p ≠ 77 → p ≠ 78 → h1 p = h p) → h1 76 = updr w s b → h1 77 = updr z s (if b = 0 then 0 else n) → h1 78 = lyC c s → P (if b = 0 then 0 else n) h1) : ∃ a_ h_, am_cd 3 172 [.inr (.inr 56), .inl s, .inl b, .inl n] h (some (.inl a_)) h_ ∧ P a_ h_ := by
  have key : (0 ≤ s ∧ s < 4) → isB b → 0 ≤ n → n ≤ 20 → ∀ m, m = (if b = 0 then 0 else n) → am_x (am_cd 2) 172 (am_qi P) 0 85 [some (.inr (.inr 56)), some (.inl s), none, none, some (.inl 0)] [] (am_up (am_up h 76 s b) 77 s m) := by
    intro q ib q3 q4 m hm
    have k : ∀ x4 h', 0 ≤ x4 → x4 ≤ 20 → (∀ p, p ≠ 78 → h' p = am_up (am_up h 76 s b) 77 s m p) → (∀ j, h' 78 j = if 20 * s ≤ j ∧ j < 20 * s + x4 then 0 else c j) → am_x (am_cd 2) 172 (am_qi P) 0 85 [some (.inr (.inr 56)), some (.inl s), none, none, some (.inl x4)] [] h' := by
      refine upto 20 (fun x4 ih h' a0 a1 a2 a3 => ?_)
      have e77 : h' 77 = updr z s m := by rw [a2 77 (by decide), up_f, up_ne (by decide), ez]
      refine g_Mo_sheet_85 ⟨fun hc => ⟨q, ?_⟩, fun hc => ⟨⟨by omega, by omega, by omega, by omega⟩, ih hc _ (by omega) (by omega) (fun p hp => (up_ne hp).trans (a2 p hp)) (fun j => ?_)⟩⟩
      · have : h' 77 s = m := by rw [e77, updr_e, if_pos rfl]
        rw [this, hm]
        rw [hm] at e77
        refine H4 ⟨q, ib⟩ q3 q4 h' (fun p p1 p2 p3 => by rw [a2 p p3, up_ne p2, up_ne p1]) ?_ e77 ?_
        · rw [a2 76 (by decide), up_ne (by decide), up_f, ew]
        · funext j
          rw [a3 j, show x4 = 20 by omega]; rfl
      · rw [up_same, a3 j]
        by_cases y : j = 20 * s + x4
        · rw [if_pos y, if_pos (by omega)]
        · rw [if_neg y]
          by_cases y2 : 20 * s ≤ j ∧ j < 20 * s + x4
          · rw [if_pos y2, if_pos (by omega)]
          · rw [if_neg y2, if_neg (by omega)]
    exact k 0 _ (by omega) (by omega) (fun _ _ => rfl) (fun j => by rw [up_ne (by decide), up_ne (by decide), ec, if_neg (by omega)])
  refine e_Mo_sheet ⟨fun q => ?_, fun q => ⟨hf, H1 (fun k => q (by omega))⟩⟩
  have q' : 0 ≤ s ∧ s < 4 := by omega
  have go : isB b → ∀ m, m = (if b = 0 then 0 else n) → (0 ≤ n → ((n ≤ 20 → ((0 ≤ s ∧ s < 4) ∧ am_x (am_cd 2) 172 (am_qi P) 0 85 [some (.inr (.inr 56)), some (.inl s), none, none, some (.inl 0)] [] (am_up (am_up h 76 s b) 77 s m))) ∧ (20 < n → ((am_ok (h 56 3 + 1)) ∧ P (-100001) (am_up h 56 3 (h 56 3 + 1)))))) ∧ (n < 0 → ((am_ok (h 56 3 + 1)) ∧ P (-100003) (am_up h 56 3 (h 56 3 + 1)))) := fun ib m hm => ⟨fun q3 => ⟨fun q4 => ⟨q', key q' ib q3 q4 m hm⟩, fun q4 => ⟨hf, H3 ⟨q', ib⟩ q4⟩⟩, fun q3 => ⟨hf, H2 ⟨q', ib⟩ q3⟩⟩
  refine ⟨fun b0 => go (.inl b0) 0 (by rw [if_pos b0]), fun b0 => ⟨fun b8 => go (.inr (.inl b8)) n (by rw [if_neg b0]), fun b8 => ⟨fun b16 => go (.inr (.inr (.inl b16))) n (by rw [if_neg b0]), fun b16 => ⟨fun b32 => go (.inr (.inr (.inr b32))) n (by rw [if_neg b0]), fun b32 => ⟨hf, H1 (fun k => by have := k.2; unfold isB at this; omega)⟩⟩⟩⟩⟩
theorem S_put {h : am_H} {w z c : Int → Int} {s i v : Int} {P : Int → am_H → Prop} (ew : h 48 = w) (ez : h 49 = z) (ec : h 50 = c) (zb : ∀ s, 0 ≤ s → s < 4 → 0 ≤ z s ∧ z s ≤ 20) (hf : am_ok (h 0 13 + 1)) (H1 : ¬ (0 ≤ s ∧ s < 4) → P (-100001) (am_up h 0 13 (h 0 13 + 1))) (H2 : (0 ≤ s ∧ s < 4) → w s = 0 → P (-100002) (am_up h 0 13 (h 0 13 + 1))) (H3 : (0 ≤ s ∧ s < 4) → w s ≠ 0 → ¬ (0 ≤ i ∧ i < z s) → P (-100001) (am_up h 0 13 (h 0 13 + 1))) (H4 : (0 ≤ s ∧ s < 4) → w s ≠ 0 → (0 ≤ i ∧ i < z s) → ∀ h1, (∀ p, p ≠ 50 → h1 p = h p) → h1 50 = updr c (20 * s + i) (trn (w s) v) → P 0 h1) : ∃ a_ h_, am_cd 2 111 [.inr (.inr 0), .inl s, .inl i, .inl v] h (some (.inl a_)) h_ ∧ P a_ h_ := by
  refine e_At_put ?_
  rw [ew, ez]
  refine ⟨fun q => ⟨fun q2 => ⟨hf, H2 q q2⟩, fun q2 => ⟨fun q3 => ⟨hf, H3 q q2 (by omega)⟩, fun q3 => ⟨fun q4 => am_liftv (Nat.le_of_ble_eq_true rfl) (e_Sheets_write ?_), fun q4 => ⟨hf, H3 q q2 (by omega)⟩⟩⟩⟩, fun q => ⟨hf, H1 q⟩⟩
  have zs := zb s q.1 q.2
  have go : ∀ x, x = trn (w s) v → (0 ≤ s * 20 + i ∧ s * 20 + i < 80) ∧ P 0 (am_up h 50 (20 * s + i) x) := fun x hx => ⟨by omega, H4 q q2 ⟨q3, q4⟩ _ (fun p hp => up_ne hp) (by rw [up_f, ec, hx])⟩
  rw [ew]
  refine ⟨⟨by omega, by omega, by omega⟩, fun k => go _ (by unfold trn; rw [if_pos k]), fun k => ⟨fun k2 => go _ (by unfold trn; rw [if_neg k, if_pos k2]), fun k2 => go _ (by unfold trn; rw [if_neg k, if_neg k2])⟩⟩
theorem S_Mput {h : am_H} {w z c : Int → Int} {s i v : Int} {P : Int → am_H → Prop} (ew : h 76 = w) (ez : h 77 = z) (ec : h 78 = c) (zb : ∀ s, 0 ≤ s → s < 4 → 0 ≤ z s ∧ z s ≤ 20) (hf : am_ok (h 56 3 + 1)) (H1 : ¬ (0 ≤ s ∧ s < 4) → P (-100001) (am_up h 56 3 (h 56 3 + 1))) (H2 : (0 ≤ s ∧ s < 4) → w s = 0 → P (-100002) (am_up h 56 3 (h 56 3 + 1))) (H3 : (0 ≤ s ∧ s < 4) → w s ≠ 0 → ¬ (0 ≤ i ∧ i < z s) → P (-100001) (am_up h 56 3 (h 56 3 + 1))) (H4 : (0 ≤ s ∧ s < 4) → w s ≠ 0 → (0 ≤ i ∧ i < z s) → ∀ h1, (∀ p, p ≠ 78 → h1 p = h p) → h1 78 = updr c (20 * s + i) (trn (w s) v) → P 0 h1) : ∃ a_ h_, am_cd 3 173 [.inr (.inr 56), .inl s, .inl i, .inl v] h (some (.inl a_)) h_ ∧ P a_ h_ := by
  refine e_Mo_put ?_
  rw [ew, ez]
  refine ⟨fun q => ⟨by omega, ?_⟩, fun q => ⟨hf, H1 (by omega)⟩⟩
  have q' : 0 ≤ s ∧ s < 4 := by omega
  have zs := zb s q'.1 q'.2
  have go : w s ≠ 0 → (0 ≤ i ∧ i ≤ z s - 1) → ∀ x, x = trn (w s) v → (0 ≤ 20 * s + i ∧ 20 * s + i < 80) ∧ P 0 (am_up h 78 (20 * s + i) x) := fun q2 q3 x hx => ⟨by omega, H4 q' q2 (by omega) _ (fun p hp => up_ne hp) (by rw [up_f, ec, hx])⟩
  refine ⟨fun q2 => ⟨by omega, fun q3 => ⟨⟨by omega, by omega⟩, fun k => ⟨fun k2 => go q2 q3 _ (by unfold trn; rw [if_neg k, if_neg k2]), fun k2 => go q2 q3 _ (by unfold trn; rw [if_neg k, if_pos k2])⟩, fun k => go q2 q3 _ (by unfold trn; rw [if_pos k])⟩, fun q3 => ⟨hf, H3 q' q2 (by omega)⟩⟩, fun q2 => ⟨hf, H2 q' q2⟩⟩
theorem S_copy {h : am_H} {w z c : Int → Int} {s a t b n : Int} {P : Int → am_H → Prop} (ew : h 48 = w) (ez : h 49 = z) (ec : h 50 = c) (zb : ∀ s, 0 ≤ s → s < 4 → 0 ≤ z s ∧ z s ≤ 20) (hf : am_ok (h 0 13 + 1)) (H1 : ¬ ((0 ≤ s ∧ s < 4) ∧ 0 ≤ t ∧ t < 4) → P (-100001) (am_up h 0 13 (h 0 13 + 1))) (H2 : ((0 ≤ s ∧ s < 4) ∧ 0 ≤ t ∧ t < 4) → (w s = 0 ∨ w t = 0) → P (-100002) (am_up h 0 13 (h 0 13 + 1))) (H3 : ((0 ≤ s ∧ s < 4) ∧ 0 ≤ t ∧ t < 4) → ¬ (w s = 0 ∨ w t = 0) → w s ≠ w t → P (-100004) (am_up h 0 13 (h 0 13 + 1))) (H4 : ((0 ≤ s ∧ s < 4) ∧ 0 ≤ t ∧ t < 4) → ¬ (w s = 0 ∨ w t = 0) → w s = w t → ¬ (0 ≤ a ∧ 0 ≤ b ∧ 0 ≤ n ∧ a + n ≤ z s ∧ b + n ≤ z t) → P (-100001) (am_up h 0 13 (h 0 13 + 1))) (H5 : ((0 ≤ s ∧ s < 4) ∧ 0 ≤ t ∧ t < 4) → ¬ (w s = 0 ∨ w t = 0) → w s = w t → (0 ≤ a ∧ 0 ≤ b ∧ 0 ≤ n ∧ a + n ≤ z s ∧ b + n ≤ z t) → ∀ h1, (∀ p, p ≠ 50 → h1 p = h p) → h1 50 = mvC c (20 * s + a) (20 * t + b) n → P n h1) : ∃ a_ h_, am_cd 2 112 [.inr (.inr 0), .inl s, .inl a, .inl t, .inl b, .inl n] h (some (.inl a_)) h_ ∧ P a_ h_ := by
  refine e_At_copy ?_
  rw [ew, ez]
  refine ⟨fun q => ⟨fun q2 => ?_, fun q2 => ⟨hf, H1 (fun k => q2 k.2)⟩⟩, fun q => ⟨hf, H1 (fun k => q k.1)⟩⟩
  have zs := zb s q.1 q.2
  have zt := zb t q2.1 q2.2
  refine ⟨fun k => ⟨hf, H2 ⟨q, q2⟩ (.inl k)⟩, fun k => ⟨fun k2 => ⟨hf, H2 ⟨q, q2⟩ (.inr k2)⟩, fun k2 => ⟨fun k3 => ?_, fun k3 => ⟨hf, H3 ⟨q, q2⟩ (fun y => y.elim k k2) k3⟩⟩⟩⟩
  have no := fun y => H4 ⟨q, q2⟩ (fun y => y.elim k k2) k3 y
  refine ⟨fun y => ⟨hf, no (by omega)⟩, fun y1 => ⟨fun y => ⟨hf, no (by omega)⟩, fun y2 => ⟨fun y => ⟨hf, no (by omega)⟩, fun y3 => ⟨by omega, fun y => ⟨hf, no (by omega)⟩, fun y4 => ⟨fun y => ⟨hf, no (by omega)⟩, fun y5 => ⟨fun y => ⟨hf, no (by omega)⟩, fun y6 => ⟨by omega, fun y => ⟨hf, no (by omega)⟩, fun y7 => am_liftv (Nat.le_of_ble_eq_true rfl) (e_Sheets_move ⟨⟨by omega, by omega, by omega, by omega, by omega⟩, H5 ⟨q, q2⟩ (fun y => y.elim k k2) k3 (by omega) _ (fun p hp => cp_ne hp) ?_⟩)⟩⟩⟩⟩⟩⟩⟩
  funext j
  rw [cp_same, ec]
  unfold mvC
  rw [show s * 20 + a = 20 * s + a by omega, show t * 20 + b = 20 * t + b by omega]
theorem S_Mcopy {h : am_H} {w z c : Int → Int} {s a t b n : Int} {P : Int → am_H → Prop} (ew : h 76 = w) (ez : h 77 = z) (ec : h 78 = c) (zb : ∀ s, 0 ≤ s → s < 4 → 0 ≤ z s ∧ z s ≤ 20) (ao : am_ok a) (bo : am_ok b) (no' : am_ok n) (hf : am_ok (h 56 3 + 1)) (H1 : ¬ ((0 ≤ s ∧ s < 4) ∧ 0 ≤ t ∧ t < 4) → P (-100001) (am_up h 56 3 (h 56 3 + 1))) (H2 : ((0 ≤ s ∧ s < 4) ∧ 0 ≤ t ∧ t < 4) → (w s = 0 ∨ w t = 0) → P (-100002) (am_up h 56 3 (h 56 3 + 1))) (H3 : ((0 ≤ s ∧ s < 4) ∧ 0 ≤ t ∧ t < 4) → ¬ (w s = 0 ∨ w t = 0) → w s ≠ w t → P (-100004) (am_up h 56 3 (h 56 3 + 1))) (H4 : ((0 ≤ s ∧ s < 4) ∧ 0 ≤ t ∧ t < 4) → ¬ (w s = 0 ∨ w t = 0) → w s = w t → ¬ (0 ≤ a ∧ 0 ≤ b ∧ 0 ≤ n ∧ a + n ≤ z s ∧ b + n ≤ z t) → P (-100001) (am_up h 56 3 (h 56 3 + 1))) (H5 : ((0 ≤ s ∧ s < 4) ∧ 0 ≤ t ∧ t < 4) → ¬ (w s = 0 ∨ w t = 0) → w s = w t → (0 ≤ a ∧ 0 ≤ b ∧ 0 ≤ n ∧ a + n ≤ z s ∧ b + n ≤ z t) → ∀ h1, (∀ p, p ≠ 78 → p ≠ 79 → h1 p = h p) → h1 78 = mvC c (20 * s + a) (20 * t + b) n → P n h1) : ∃ a_ h_, am_cd 3 174 [.inr (.inr 56), .inl s, .inl a, .inl t, .inl b, .inl n] h (some (.inl a_)) h_ ∧ P a_ h_ := by
  refine e_Mo_copy ?_
  rw [ew, ez]
  refine ⟨fun q => ⟨fun q2 => ⟨by omega, ?_⟩, fun q2 => ⟨hf, H1 (by omega)⟩⟩, fun q => ⟨hf, H1 (by omega)⟩⟩
  have qq : (0 ≤ s ∧ s < 4) ∧ 0 ≤ t ∧ t < 4 := by omega
  have zs := zb s qq.1.1 qq.1.2
  have zt := zb t qq.2.1 qq.2.2
  refine ⟨fun k => ⟨hf, H2 qq (.inl k)⟩, fun k => ⟨by omega, fun k2 => ⟨fun k3 => ?_, fun k3 => ⟨hf, H3 qq (fun y => y.elim k k2) k3⟩⟩, fun k2 => ⟨hf, H2 qq (.inr k2)⟩⟩⟩
  have no := fun y => H4 qq (fun y => y.elim k k2) k3 y
  refine ⟨fun y => ⟨hf, no (by omega)⟩, fun y1 => ⟨fun y => ⟨hf, no (by omega)⟩, fun y2 => ⟨fun y => ⟨hf, no (by omega)⟩, fun y3 => ?_⟩⟩⟩
  have l1 := lc_add y1 ao y3 no' zs.1 zs.2
  have l2 := lc_add y2 bo y3 no' zt.1 zt.2
  refine ⟨fun y => ⟨hf, no (by omega)⟩, fun y4 => ⟨fun y5 => ?_, fun y => ⟨hf, no (by omega)⟩⟩⟩
  have m1 := l1.mp y4
  have m2 := l2.mp y5
  have key2 : ∀ h0 : am_H, (∀ p, p ≠ 79 → h0 p = h p) → (∀ j, 0 ≤ j → j < n → h0 79 j = c (20 * s + a + j)) → ∀ x6 h', 0 ≤ x6 → x6 ≤ n → (∀ p, p ≠ 78 → h' p = h0 p) → (∀ j, h' 78 j = if 20 * t + b ≤ j ∧ j < 20 * t + b + x6 then c (20 * s + a + (j - (20 * t + b))) else c j) → am_x (am_cd 2) 174 (am_qi P) 0 164 [some (.inr (.inr 56)), none, none, some (.inl t), some (.inl b), some (.inl n), some (.inl x6)] [] h' := by
    intro h0 f0 w0
    refine upto n (fun x6 ih h' a0 a1 a2 a3 => ?_)
    refine g_Mo_copy_164 ⟨fun hc => H5 qq (fun y => y.elim k k2) k3 (by omega) h' (fun p p1 p2 => (a2 p p1).trans (f0 p p2)) ?_, fun hc => ⟨⟨by omega, by omega, by omega, by omega, by omega, by omega⟩, ih hc _ (by omega) (by omega) (fun p hp => (up_ne hp).trans (a2 p hp)) (fun j => ?_)⟩⟩
    · funext j
      rw [a3 j, show x6 = n by omega]; rfl
    · rw [up_same, a3 j, a2 79 (by decide), w0 x6 a0 hc]
      by_cases y : j = 20 * t + b + x6
      · rw [if_pos y, if_pos (by omega), show j - (20 * t + b) = x6 by omega]
      · rw [if_neg y]
        by_cases y2 : 20 * t + b ≤ j ∧ j < 20 * t + b + x6
        · rw [if_pos y2, if_pos (by omega)]
        · rw [if_neg y2, if_neg (by omega)]
  have key1 : ∀ x6 h', 0 ≤ x6 → x6 ≤ n → (∀ p, p ≠ 79 → h' p = h p) → (∀ j, 0 ≤ j → j < x6 → h' 79 j = c (20 * s + a + j)) → am_x (am_cd 2) 174 (am_qi P) 0 127 [some (.inr (.inr 56)), some (.inl s), some (.inl a), some (.inl t), some (.inl b), some (.inl n), some (.inl x6)] [] h' := by
    refine upto n (fun x6 ih h' a0 a1 a2 a3 => ?_)
    refine g_Mo_copy_127 ⟨fun hc => key2 h' a2 (fun j j0 j1 => a3 j j0 (by omega)) 0 h' (by omega) y3 (fun _ _ => rfl) (fun j => by rw [a2 78 (by decide), ec, if_neg (by omega)]), fun hc => ⟨⟨by omega, by omega, by omega, by omega, by omega, by omega⟩, ih hc _ (by omega) (by omega) (fun p hp => (up_ne hp).trans (a2 p hp)) (fun j j0 j1 => ?_)⟩⟩
    rw [up_same, a2 78 (by decide), ec]
    by_cases y : j = x6
    · rw [if_pos y, y]
    · rw [if_neg y]; exact a3 j j0 (by omega)
  exact key1 0 h (by omega) y3 (fun _ _ => rfl) (fun j _ _ => by omega)
