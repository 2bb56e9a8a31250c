/-! sheets -/
theorem lc_add {a b z : Int} (a0 : 0 ≤ a) (a1 : am_ok a) (b0 : 0 ≤ b) (b1 : am_ok b) (z0 : 0 ≤ z) (z1 : z ≤ 20) : am_lc ((Int64.ofInt a) + (Int64.ofInt b)) (Int64.ofInt z) ≤ 0 ↔ a + b ≤ z := by
  have e1 : (Int64.ofInt a + Int64.ofInt b) = Int64.ofInt (a + b) := (Int64.ofInt_add a b).symm
  have t1 : (Int64.ofInt (a + b)).toInt = a + b := Int64.toInt_ofInt_of_le (by omega) (by omega)
  have t2 : (Int64.ofInt z).toInt = z := Int64.toInt_ofInt_of_le (by omega) (by omega)
  rw [e1]
  unfold am_lc
  by_cases q : a + b ≤ z
  · rw [if_neg (by rw [Int64.lt_iff_toInt_lt, t1, t2]; omega)]
    constructor
    · intro _; exact q
    · intro _; split <;> omega
  · rw [if_pos (by rw [Int64.lt_iff_toInt_lt, t1, t2]; omega)]
    omega
def trn (w v : Int) : Int := if w = 8 then (Int32.ofInt v).toInt8.toInt else if w = 16 then (Int32.ofInt v).toInt16.toInt else v
def lyC (c : Int → Int) (s : Int) : Int → Int := fun j => if 20 * s ≤ j ∧ j < 20 * s + 20 then 0 else c j
def mvC (c : Int → Int) (a b n : Int) : Int → Int := fun j => if b ≤ j ∧ j < b + n then c (a + (j - b)) else c j
def isB (b : Int) : Prop := b = 0 ∨ b = 8 ∨ b = 16 ∨ b = 32
theorem S_sheet {h : am_H} {w z c : Int → Int} {s b n : Int} {P : Int → am_H → Prop} (ew : h 48 = w) (ez : h 49 = z) (ec : h 50 = c) (hf : am_ok (h 0 13 + 1)) (H1 : ¬ ((0 ≤ s ∧ s < 4) ∧ isB b) → P (-100001) (am_up h 0 13 (h 0 13 + 1))) (H2 : ((0 ≤ s ∧ s < 4) ∧ isB b) → n < 0 → P (-100003) (am_up h 0 13 (h 0 13 + 1))) (H3 : ((0 ≤ s ∧ s < 4) ∧ isB b) → 20 < n → P (-100001) (am_up h 0 13 (h 0 13 + 1))) (H4 : ((0 ≤ s ∧ s < 4) ∧ isB b) → 0 ≤ n → n ≤ 20 → ∀ h1, (∀ p, p ≠ 48 → p ≠ 49 → p ≠ 50 → h1 p = h p) → h1 48 = updr w s b → h1 49 = updr z s (if b = 0 then 0 else n) → h1 50 = lyC c s → P (if b = 0 then 0 else n) h1) : ∃ a_ h_, am_cd 4 188 [.inr (.inr 0), .inl s, .inl b, .inl n] h (some (.inl a_)) h_ ∧ P a_ h_ := by
  refine e_At_sheet ⟨fun q => ⟨fun q2 => ⟨hf, H1 (fun k => by unfold isB at k; omega)⟩, fun q2 => ?_⟩, fun q => ⟨hf, H1 (fun k => q k.1)⟩⟩
  have ib : isB b := by unfold isB; omega
  refine ⟨fun q3 => ⟨fun q4 => am_lifti (Nat.le_of_ble_eq_true rfl) (e_Sheets_lay ⟨q, ?_⟩), fun q4 => ⟨hf, H3 ⟨q, ib⟩ q4⟩⟩, fun q3 => ⟨hf, H2 ⟨q, ib⟩ q3⟩⟩
  have go : ∀ m, m = (if b = 0 then 0 else n) → (am_ok (s * 20) ∧ am_ok (s + 1) ∧ am_ok ((s + 1) * 20)) ∧ ∃ h6, am_cd 2 137 [.inr (.inr 50), .inl (s * 20), .inl ((s + 1) * 20), .inl 0] (am_up (am_up h 48 s b) 49 s m) none h6 ∧ P (h6 49 s) h6 := by
    intro m hm
    refine ⟨⟨by omega, by omega, by omega⟩, am_liftv (Nat.le_of_ble_eq_true rfl) (S_fillR (n0 := 80) (fun h => by with_unfolding_all rfl) (by decide) (by decide) (by omega) (by omega) (by omega) (fun h1 f1 w1 => ?_))⟩
    have e49 : h1 49 = updr z s m := by rw [f1 49 (by decide), up_f, up_ne (by decide), ez]
    have : h1 49 s = m := by rw [e49, updr_e, if_pos rfl]
    rw [this, hm]
    rw [hm] at e49
    refine H4 ⟨q, ib⟩ q3 q4 h1 (fun p p1 p2 p3 => by rw [f1 p p3, up_ne p2, up_ne p1]) ?_ e49 ?_
    · rw [f1 48 (by decide), up_ne (by decide), up_f, ew]
    · funext j
      rw [w1 j, up_ne (by decide), up_ne (by decide), ec]
      unfold lyC
      by_cases k : 20 * s ≤ j ∧ j < 20 * s + 20
      · rw [if_pos k, if_pos (by omega)]
      · rw [if_neg k, if_neg (by omega)]
  exact ⟨fun k => go n (by rw [if_neg k]), fun k => go 0 (by rw [if_pos k])⟩
theorem S_Msheet {h : am_H} {w z c : Int → Int} {s b n : Int} {P : Int → am_H → Prop} (ew : h 76 = w) (ez : h 77 = z) (ec : h 78 = c) (hf : am_ok (h 56 3 + 1)) (H1 : ¬ ((0 ≤ s ∧ s < 4) ∧ isB b) → P (-100001) (am_up h 56 3 (h 56 3 + 1))) (H2 : ((0 ≤ s ∧ s < 4) ∧ isB b) → n < 0 → P (-100003) (am_up h 56 3 (h 56 3 + 1))) (H3 : ((0 ≤ s ∧ s < 4) ∧ isB b) → 20 < n → P (-100001) (am_up h 56 3 (h 56 3 + 1))) (H4 : ((0 ≤ s ∧ s < 4) ∧ isB b) → 0 ≤ n → n ≤ 20 → ∀ h1, (∀ p, p ≠ 76 → p ≠ 77 → p ≠ 78 → h1 p = h p) → h1 76 = updr w s b → h1 77 = updr z s (if b = 0 then 0 else n) → h1 78 = lyC c s → P (if b = 0 then 0 else n) h1) : ∃ a_ h_, am_cd 3 172 [.inr (.inr 56), .inl s, .inl b, .inl n] h (some (.inl a_)) h_ ∧ P a_ h_ := by
  have key : (0 ≤ s ∧ s < 4) → isB b → 0 ≤ n → n ≤ 20 → ∀ m, m = (if b = 0 then 0 else n) → am_x (am_cd 2) 172 (am_qi P) 0 85 [some (.inr (.inr 56)), some (.inl s), none, none, some (.inl 0)] [] (am_up (am_up h 76 s b) 77 s m) := by
    intro q ib q3 q4 m hm
    have k : ∀ x4 h', 0 ≤ x4 → x4 ≤ 20 → (∀ p, p ≠ 78 → h' p = am_up (am_up h 76 s b) 77 s m p) → (∀ j, h' 78 j = if 20 * s ≤ j ∧ j < 20 * s + x4 then 0 else c j) → am_x (am_cd 2) 172 (am_qi P) 0 85 [some (.inr (.inr 56)), some (.inl s), none, none, some (.inl x4)] [] h' := by
      refine upto 20 (fun x4 ih h' a0 a1 a2 a3 => ?_)
      have e77 : h' 77 = updr z s m := by rw [a2 77 (by decide), up_f, up_ne (by decide), ez]
      refine g_Mo_sheet_85 ⟨fun hc => ⟨q, ?_⟩, fun hc => ⟨⟨by omega, by omega, by omega, by omega⟩, ih hc _ (by omega) (by omega) (fun p hp => (up_ne hp).trans (a2 p hp)) (fun j => ?_)⟩⟩
      · have : h' 77 s = m := by rw [e77, updr_e, if_pos rfl]
        rw [this, hm]
        rw [hm] at e77
        refine H4 ⟨q, ib⟩ q3 q4 h' (fun p p1 p2 p3 => by rw [a2 p p3, up_ne p2, up_ne p1]) ?_ e77 ?_
        · rw [a2 76 (by decide), up_ne (by decide), up_f, ew]
        · funext j
          rw [a3 j, show x4 = 20 by omega]; rfl
      · rw [up_same, a3 j]
        by_cases y : j = 20 * s + x4
        · rw [if_pos y, if_pos (by omega)]
        · rw [if_neg y]
          by_cases y2 : 20 * s ≤ j ∧ j < 20 * s + x4
          · rw [if_pos y2, if_pos (by omega)]
          · rw [if_neg y2, if_neg (by omega)]
    exact k 0 _ (by omega) (by omega) (fun _ _ => rfl) (fun j => by rw [up_ne (by decide), up_ne (by decide), ec, if_neg (by omega)])
  refine e_Mo_sheet ⟨fun q => ?_, fun q => ⟨hf, H1 (fun k => q (by omega))⟩⟩
  have q' : 0 ≤ s ∧ s < 4 := by omega
  have go : isB b → ∀ m, m = (if b = 0 then 0 else n) → (0 ≤ n → ((n ≤ 20 → ((0 ≤ s ∧ s < 4) ∧ am_x (am_cd 2) 172 (am_qi P) 0 85 [some (.inr (.inr 56)), some (.inl s), none, none, some (.inl 0)] [] (am_up (am_up h 76 s b) 77 s m))) ∧ (20 < n → ((am_ok (h 56 3 + 1)) ∧ P (-100001) (am_up h 56 3 (h 56 3 + 1)))))) ∧ (n < 0 → ((am_ok (h 56 3 + 1)) ∧ P (-100003) (am_up h 56 3 (h 56 3 + 1)))) := fun ib m hm => ⟨fun q3 => ⟨fun q4 => ⟨q', key q' ib q3 q4 m hm⟩, fun q4 => ⟨hf, H3 ⟨q', ib⟩ q4⟩⟩, fun q3 => ⟨hf, H2 ⟨q', ib⟩ q3⟩⟩
  refine ⟨fun b0 => go (.inl b0) 0 (by rw [if_pos b0]), fun b0 => ⟨fun b8 => go (.inr (.inl b8)) n (by rw [if_neg b0]), fun b8 => ⟨fun b16 => go (.inr (.inr (.inl b16))) n (by rw [if_neg b0]), fun b16 => ⟨fun b32 => go (.inr (.inr (.inr b32))) n (by rw [if_neg b0]), fun b32 => ⟨hf, H1 (fun k => by have := k.2; unfold isB at this; omega)⟩⟩⟩⟩⟩
