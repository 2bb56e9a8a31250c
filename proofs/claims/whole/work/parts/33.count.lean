/-! counts -/
def er (N : Int → Int) (v u : Int) : Int := if 0 < N (46 + 12 * v + u) then 1 else 0
def rds (N : Int → Int) : Int := su (fun v => su (er N v) v) (N 0)
theorem er_dbl {e : Int → Int → Int} (sy : ∀ a b, 0 ≤ a → 0 ≤ b → a < 12 → b < 12 → e a b = e b a) (z : ∀ a, 0 ≤ a → a < 12 → e a a = 0) : ∀ n : Nat, n ≤ 12 → su (fun v => su (e v) n) n = 2 * su (fun v => su (e v) v) n
  | 0, _ => by rw [su_0 (by omega), su_0 (by omega)]; rfl
  | n + 1, h => by
    have ih := er_dbl sy z n (by omega)
    rw [show ((n + 1 : Nat) : Int) = (n : Int) + 1 by omega, su_1 (by omega), su_1 (by omega)]
    have a : su (fun v => su (e v) ((n : Int) + 1)) n = su (fun v => su (e v) n + e v n) n := su_congr (fun v v0 v1 => by rw [su_1 (by omega)])
    have b : su (fun v => e v n) n = su (e n) n := su_congr (fun v v0 v1 => sy v n v0 (by omega) (by omega) (by omega))
    have c := su_1 (f := fun v => su (e v) v) (x := n) (by omega)
    rw [a, su_add, z n (by omega) (by omega), b, c]
    show _ = 2 * (su (fun v => su (e v) v) (n : Int) + su (e n) n)
    omega
theorem er_bd (N : Int → Int) (v : Int) {n : Int} (h : 0 ≤ n) : 0 ≤ su (er N v) n ∧ su (er N v) n ≤ 1 * n := su_bd (by omega) h (fun x _ _ => by unfold er; split <;> omega)
theorem nb_cn {N : Int → Int} {v r : Int} (O : OL N) (v0 : 0 ≤ v) (v1 : v < N 0) (h : nb N v r) : cn r 12 = su (er N v) (N 0) := by
  have hN := O.1
  have e : su (er N v) 12 = su (er N v) (N 0) := by
    have : ∀ k : Nat, N 0 + k ≤ 12 → su (er N v) (N 0 + k) = su (er N v) (N 0) := by
      intro k
      induction k with
      | zero => intro _; rw [show N 0 + ((0 : Nat) : Int) = N 0 by omega]
      | succ k ih =>
        intro hk
        rw [show N 0 + ((k + 1 : Nat) : Int) = N 0 + k + 1 by omega, su_1 (by omega), ih (by omega)]
        have := (O.2.2 v (N 0 + k) v0 (by omega) (by omega) (by omega))
        unfold er
        rw [if_neg (fun y => by have := this.2.2 y; omega)]; omega
    have := this (12 - N 0).toNat (by omega)
    rw [show N 0 + ((12 - N 0).toNat : Int) = 12 by omega] at this
    exact this
  rw [← e]
  unfold cn
  refine su_congr (fun u u0 u1 => ?_)
  unfold er
  have k := h.2 u u0 (by omega)
  by_cases q : 0 < N (46 + 12 * v + u)
  · rw [if_pos q, if_pos]
    have := (O.2.2 v u v0 (by omega) u0 u1).2.2 q
    exact k.mpr ⟨by omega, q⟩
  · rw [if_neg q, if_neg (fun y => q (k.mp y).2)]
theorem rds_2 {N : Int → Int} (O : OL N) : su (fun v => su (er N v) (N 0)) (N 0) = 2 * rds N := by
  have hN := O.1
  have := er_dbl (e := er N) (fun a b a0 b0 a1 b1 => by unfold er; rw [(O.2.2 a b a0 a1 b0 b1).2.1]) (fun a a0 a1 => by
    unfold er
    rw [if_neg (fun y => ((O.2.2 a a a0 a1 a0 a1).2.2 y).2.2 rfl)]) (N 0).toNat (by omega)
  rw [show (((N 0).toNat : Nat) : Int) = N 0 by omega] at this
  exact this
theorem nb_rng {N : Int → Int} {v r : Int} (O : OL N) (h : nb N v r) : 0 ≤ r ∧ r < 4096 := inn_rng O.1.2 h.1 (fun u u0 u1 k => ((h.2 u u0 u1).mp k).1)
theorem S_roads {h : am_H} {N : Int → Int} {P : Int → am_H → Prop} (O : OL N) (R : LR h N) (H : P (rds N) h) : ∃ a_ h_, am_cd 4 179 [.inr (.inr 1)] h (some (.inl a_)) h_ ∧ P a_ h_ := by
  have hN := O.1
  have key : ∀ x2 x1, 0 ≤ x2 → x2 ≤ N 0 → x1 = su (fun v => su (er N v) (N 0)) x2 → 0 ≤ x1 → x1 ≤ 12 * x2 → am_x (am_cd 3) 179 (am_qi P) 0 4 [some (.inr (.inr 1)), some (.inl x1), some (.inl x2)] [] h := by
    refine upto (N 0) (fun x2 ih x1 a0 a1 a2 a3 a4 => ?_)
    refine g_Land_roads_4 ?_
    rw [R.1]
    refine ⟨fun hc => ⟨a3, ?_⟩, fun hc => am_lifti (Nat.le_of_ble_eq_true rfl) (S_neighboursOf O R a0 hc (fun r hr => ?_))⟩
    · rw [show x2 = N 0 by omega, rds_2 O] at a2
      rw [a2, show 2 * rds N / 2 = rds N by omega]; exact H
    · have rg := nb_rng O hr
      have eb := er_bd N x2 (n := N 0) hN.1
      refine am_lifti (Nat.le_of_ble_eq_true rfl) (S_bitCount rg.1 rg.2 ?_)
      rw [nb_cn O a0 hc hr]
      exact ⟨⟨by omega, by omega⟩, ih hc _ (by omega) (by omega) (by rw [su_1 a0, a2]) (by omega) (by omega)⟩
  exact e_Land_roads (key 0 0 (by omega) hN.1 (su_0 (by omega)).symm (by omega) (by omega))
/-- answers that stand -/
def stg (N : Int → Int) : Int := su (fun a => if N (524 + 5 * a) < 0 then 1 else 0) (N 3)
theorem stg_bd (N : Int → Int) {n : Int} (h : 0 ≤ n) : 0 ≤ su (fun a => if N (524 + 5 * a) < 0 then (1 : Int) else 0) n ∧ su (fun a => if N (524 + 5 * a) < 0 then (1 : Int) else 0) n ≤ 1 * n := su_bd (by omega) h (fun x _ _ => by split <;> omega)
theorem S_standing {h : am_H} {N : Int → Int} {P : Int → am_H → Prop} (C : OA N) (R : AR h N) (H : P (stg N) h) : ∃ a_ h_, am_cd 2 91 [.inr (.inr 17)] h (some (.inl a_)) h_ ∧ P a_ h_ := by
  have hC := C.1
  have key : ∀ x2, 0 ≤ x2 → x2 ≤ N 3 → am_x (am_cd 1) 91 (am_qi P) 0 4 [some (.inr (.inr 17)), some (.inl (su (fun a => if N (524 + 5 * a) < 0 then (1 : Int) else 0) x2)), some (.inl x2)] [] h := by
    refine upto (N 3) (fun x2 ih a0 a1 => ?_)
    have b := stg_bd N a0
    refine g_Answers_standing_4 ?_
    rw [R.1]
    refine ⟨fun hc => ?_, fun hc => ⟨by omega, ?_⟩⟩
    · rw [show x2 = N 3 by omega]; exact H
    · have ih' := ih hc (by omega) (by omega)
      rw [su_1 a0] at ih'
      have r := (R.2 x2 a0 hc).2.2.2.2
      have c := (C.2 x2 a0 hc).2.2.2.2
      rw [r]
      refine ⟨fun k => ⟨by omega, ?_⟩, fun k => ⟨⟨by omega, by omega⟩, ?_⟩⟩
      · rw [if_neg (by omega), Int.add_zero] at ih'; exact ih'
      · rw [if_pos (by omega)] at ih'; exact ih'
  have := key 0 (by omega) hC.1
  rw [su_0 (by omega)] at this
  exact e_Answers_standing this
/-- the answer of count -/
def ct (N : Int → Int) (fd k : Int) : Int := if k = 0 then N 0 else if k = 1 then rds N else if k = 2 then N 1 else if k = 3 then N 2 else if k = 4 then N 3 else if k = 5 then stg N else if k = 6 then N 4 else if k = 7 then su (fun v => N (12 + 3 * v)) (N 0) else if k = 8 then fd else -100001
theorem rds_bd {N : Int → Int} (O : OL N) : 0 ≤ rds N := by
  have hN := O.1
  exact (su_bd (B := 12) (by omega) hN.1 (fun x x0 x1 => by have := er_bd N x x0; omega)).1
theorem ct_lo {N : Int → Int} {fd k : Int} (L : OL N) (O : OP N) (F : OF N) (C : OA N) (d0 : 0 ≤ N 4) (f0 : 0 ≤ fd) : ct N fd k < -99999 ↔ ¬ (0 ≤ k ∧ k ≤ 8) := by
  have h0 := L.1
  have h1 := O.1
  have h2 := F.1
  have h3 := C.1
  have r := rds_bd L
  have s := (stg_bd N h3.1).1
  have w : 0 ≤ su (fun v => N (12 + 3 * v)) (N 0) := (su_bd (B := 999) (by omega) h0.1 (fun x x0 x1 => by have := (L.2.1 x x0 x1).2.2; omega)).1
  have s' : 0 ≤ stg N := s
  unfold ct
  generalize su (fun v => N (12 + 3 * v)) (N 0) = W at *
  generalize stg N = Z at *
  repeat' split
  all_goals omega
theorem S_count {N : Int → Int} {h : am_H} {k : Int} {P : Int → am_H → Prop} (L : OL N) (O : OP N) (F : OF N) (C : OA N) (LL : LR h N) (PP : PR h N) (FF : FR h N) (AA : AR h N) (e4 : h 0 12 = N 4) (d0 : 0 ≤ N 4) (hf0 : 0 ≤ h 0 13) (hf : am_ok (h 0 13 + 1)) (H : ∀ h1, (∀ p, p ≠ 0 → h1 p = h p) → (∀ j, j ≠ 13 → h1 0 j = h 0 j) → h1 0 13 = h 0 13 + (if ct N (h 0 13) k < -99999 then 1 else 0) → P (ct N (h 0 13) k) h1) : ∃ a_ h_, am_cd 5 214 [.inr (.inr 0), .inl k] h (some (.inl a_)) h_ ∧ P a_ h_ := by
  have hN := L.1
  have sh := shl_ok hN.1 hN.2
  have lo := ct_lo (fd := h 0 13) (k := k) L O F C d0 hf0
  have ok : ∀ c, (0 ≤ k ∧ k ≤ 8) → ct N (h 0 13) k = c → P c h := by
    intro c i e
    rw [← e]
    exact H h (fun _ _ => rfl) (fun _ _ => rfl) (by rw [if_neg (fun y => lo.mp y i)]; omega)
  refine e_At_count ?_
  rw [LL.1, PP.1, FF.1, AA.1, e4]
  refine ⟨fun c => ok _ (by omega) (by unfold ct; rw [if_pos c]), fun n0 => ⟨fun c => am_lifti (Nat.le_of_ble_eq_true rfl) (S_roads L LL (ok _ (by omega) (by unfold ct; rw [if_neg n0, if_pos c]))), fun n1 => ⟨fun c => ok _ (by omega) (by unfold ct; rw [if_neg n0, if_neg n1, if_pos c]), fun n2 => ⟨fun c => ok _ (by omega) (by unfold ct; rw [if_neg n0, if_neg n1, if_neg n2, if_pos c]), fun n3 => ⟨fun c => ok _ (by omega) (by unfold ct; rw [if_neg n0, if_neg n1, if_neg n2, if_neg n3, if_pos c]), fun n4 => ⟨fun c => am_lifti (Nat.le_of_ble_eq_true rfl) (S_standing C AA (ok _ (by omega) (by unfold ct; rw [if_neg n0, if_neg n1, if_neg n2, if_neg n3, if_neg n4, if_pos c]))), fun n5 => ⟨fun c => ok _ (by omega) (by unfold ct; rw [if_neg n0, if_neg n1, if_neg n2, if_neg n3, if_neg n4, if_neg n5, if_pos c]), fun n6 => ⟨fun c => ⟨by omega, am_lifti (Nat.le_of_ble_eq_true rfl) (S_folkOf L LL (ok _ (by omega) ?_))⟩, fun n7 => ⟨fun c => ok _ (by omega) (by unfold ct; rw [if_neg n0, if_neg n1, if_neg n2, if_neg n3, if_neg n4, if_neg n5, if_neg n6, if_neg n7, if_pos c]), fun n8 => ⟨hf, ?_⟩⟩⟩⟩⟩⟩⟩⟩⟩⟩
  · unfold ct
    rw [if_neg n0, if_neg n1, if_neg n2, if_neg n3, if_neg n4, if_neg n5, if_neg n6, if_pos c]
    unfold fo
    exact su_congr (fun v v0 v1 => by rw [if_pos ((tb_all v0 (by omega) hN.1 hN.2).mpr v1)])
  · have e : ct N (h 0 13) k = -100001 := by unfold ct; rw [if_neg n0, if_neg n1, if_neg n2, if_neg n3, if_neg n4, if_neg n5, if_neg n6, if_neg n7, if_neg n8]
    rw [← e]
    exact H _ (fun p hp => up_ne hp) (fun j hj => by rw [up_same, if_neg hj]) (by rw [up_same, if_pos rfl, if_pos (by omega)])
theorem S_Mcount {N : Int → Int} {h : am_H} {k : Int} {P : Int → am_H → Prop} (L : OL N) (O : OP N) (F : OF N) (C : OA N) (eN : h 57 = N) (d0 : 0 ≤ N 4) (hf0 : 0 ≤ h 56 3) (hf : am_ok (h 56 3 + 1)) (H : ∀ h1, (∀ p, p ≠ 56 → h1 p = h p) → (∀ j, j ≠ 3 → h1 56 j = h 56 j) → h1 56 3 = h 56 3 + (if ct N (h 56 3) k < -99999 then 1 else 0) → P (ct N (h 56 3) k) h1) : ∃ a_ h_, am_cd 2 136 [.inr (.inr 56), .inl k] h (some (.inl a_)) h_ ∧ P a_ h_ := by
  have hN := L.1
  have hC := C.1
  have lo := ct_lo (fd := h 56 3) (k := k) L O F C d0 hf0
  have ok : ∀ c, (0 ≤ k ∧ k ≤ 8) → ct N (h 56 3) k = c → P c h := by
    intro c i e
    rw [← e]
    exact H h (fun _ _ => rfl) (fun _ _ => rfl) (by rw [if_neg (fun y => lo.mp y i)]; omega)
  refine e_Mo_count ?_
  rw [eN]
  refine ⟨fun c => ok _ (by omega) (by unfold ct; rw [if_pos c]), fun n0 => ⟨fun c => ?_, fun n1 => ⟨fun c => ok _ (by omega) (by unfold ct; rw [if_neg n0, if_neg n1, if_pos c]), fun n2 => ⟨fun c => ok _ (by omega) (by unfold ct; rw [if_neg n0, if_neg n1, if_neg n2, if_pos c]), fun n3 => ⟨fun c => ok _ (by omega) (by unfold ct; rw [if_neg n0, if_neg n1, if_neg n2, if_neg n3, if_pos c]), fun n4 => ⟨fun c => ?_, fun n5 => ⟨fun c => ok _ (by omega) (by unfold ct; rw [if_neg n0, if_neg n1, if_neg n2, if_neg n3, if_neg n4, if_neg n5, if_pos c]), fun n6 => ⟨fun c => ?_, fun n7 => ⟨fun c => ok _ (by omega) (by unfold ct; rw [if_neg n0, if_neg n1, if_neg n2, if_neg n3, if_neg n4, if_neg n5, if_neg n6, if_neg n7, if_pos c]), fun n8 => ⟨hf, ?_⟩⟩⟩⟩⟩⟩⟩⟩⟩⟩
  · have r : P (rds N) h := ok _ (by omega) (by unfold ct; rw [if_neg n0, if_pos c])
    have key : ∀ x3, 0 ≤ x3 → x3 ≤ N 0 → 0 ≤ su (fun v => su (er N v) v) x3 → su (fun v => su (er N v) v) x3 ≤ 12 * x3 → am_x (am_cd 1) 136 (am_qi P) 0 61 [some (.inr (.inr 56)), none, some (.inl (su (fun v => su (er N v) v) x3)), some (.inl x3), none] [] h := by
      refine upto (N 0) (fun x3 ih a0 a1 a2 a3 => ?_)
      refine g_Mo_count_61 ?_
      rw [eN]
      refine ⟨fun hc => ?_, fun hc => ?_⟩
      · rw [show x3 = N 0 by omega]; exact r
      · have inn' : ∀ x4, 0 ≤ x4 → x4 ≤ x3 → am_x (am_cd 1) 136 (am_qi P) 0 74 [some (.inr (.inr 56)), none, some (.inl (su (fun v => su (er N v) v) x3 + su (er N x3) x4)), some (.inl x3), some (.inl x4)] [] h := by
          refine upto x3 (fun x4 ih2 b0 b1 => ?_)
          have eb := er_bd N x3 b0
          refine g_Mo_count_74 ?_
          rw [eN]
          refine ⟨fun hc2 => ⟨by omega, ?_⟩, fun hc2 => ⟨⟨by omega, by omega, by omega, by omega⟩, ?_⟩⟩
          · have e : x4 = x3 := by omega
            subst e
            have z := ih hc (by omega) (by omega)
            rw [su_1 a0] at z
            exact z (by omega) (by omega)
          · have z := ih2 hc2 (by omega) (by omega)
            rw [su_1 b0] at z
            refine ⟨fun q => ⟨⟨by omega, by omega⟩, ?_⟩, fun q => ⟨⟨by omega, by omega⟩, ?_⟩⟩
            · rw [show er N x3 x4 = 0 by unfold er; rw [if_neg (by omega)]] at z
              rw [show su (fun v => su (er N v) v) x3 + su (er N x3) x4 + 0 = su (fun v => su (er N v) v) x3 + (su (er N x3) x4 + 0) by omega]; exact z
            · rw [show er N x3 x4 = 1 by unfold er; rw [if_pos q]] at z
              rw [show su (fun v => su (er N v) v) x3 + su (er N x3) x4 + 1 = su (fun v => su (er N v) v) x3 + (su (er N x3) x4 + 1) by omega]; exact z
        have z := inn' 0 (by omega) a0
        rw [su_0 (f := er N x3) (by omega), Int.add_zero] at z
        exact z
    have z := key 0 (by omega) hN.1
    rw [su_0 (by omega)] at z
    exact z (by omega) (by omega)
  · have r : P (stg N) h := ok _ (by omega) (by unfold ct; rw [if_neg n0, if_neg n1, if_neg n2, if_neg n3, if_neg n4, if_pos c])
    have key : ∀ x3, 0 ≤ x3 → x3 ≤ N 3 → am_x (am_cd 1) 136 (am_qi P) 0 135 [some (.inr (.inr 56)), none, some (.inl (su (fun a => if N (524 + 5 * a) < 0 then (1 : Int) else 0) x3)), some (.inl x3), none] [] h := by
      refine upto (N 3) (fun x3 ih a0 a1 => ?_)
      have b := stg_bd N a0
      refine g_Mo_count_135 ?_
      rw [eN]
      refine ⟨fun hc => ?_, fun hc => ⟨⟨by omega, by omega, by omega, by omega⟩, ?_⟩⟩
      · rw [show x3 = N 3 by omega]; exact r
      · have ih' := ih hc (by omega) (by omega)
        rw [su_1 a0] at ih'
        refine ⟨fun k => ⟨⟨by omega, by omega⟩, ?_⟩, fun k => ⟨⟨by omega, by omega⟩, ?_⟩⟩
        · rw [if_neg (by omega)] at ih'; exact ih'
        · rw [if_pos (by omega)] at ih'; exact ih'
    have z := key 0 (by omega) hC.1
    rw [su_0 (by omega)] at z
    exact z
  · have r : P (su (fun v => N (12 + 3 * v)) (N 0)) h := ok _ (by omega) (by unfold ct; rw [if_neg n0, if_neg n1, if_neg n2, if_neg n3, if_neg n4, if_neg n5, if_neg n6, if_pos c])
    have key : ∀ x3, 0 ≤ x3 → x3 ≤ N 0 → 0 ≤ su (fun v => N (12 + 3 * v)) x3 → su (fun v => N (12 + 3 * v)) x3 ≤ 999 * x3 → am_x (am_cd 1) 136 (am_qi P) 0 187 [some (.inr (.inr 56)), none, some (.inl (su (fun v => N (12 + 3 * v)) x3)), some (.inl x3), none] [] h := by
      refine upto (N 0) (fun x3 ih a0 a1 a2 a3 => ?_)
      refine g_Mo_count_187 ?_
      rw [eN]
      refine ⟨fun hc => ?_, fun hc => ?_⟩
      · rw [show x3 = N 0 by omega]; exact r
      · have fb := (L.2.1 x3 a0 hc).2.2
        have z := ih hc (by omega) (by omega)
        rw [su_1 a0] at z
        exact ⟨⟨by omega, by omega, by omega, by omega⟩, ⟨by omega, by omega⟩, z (by omega) (by omega)⟩
    have z := key 0 (by omega) hN.1
    rw [su_0 (by omega)] at z
    exact z (by omega) (by omega)
  · have e : ct N (h 56 3) k = -100001 := by unfold ct; rw [if_neg n0, if_neg n1, if_neg n2, if_neg n3, if_neg n4, if_neg n5, if_neg n6, if_neg n7, if_neg n8]
    rw [← e]
    exact H _ (fun p hp => up_ne hp) (fun j hj => by rw [up_same, if_neg hj]) (by rw [up_same, if_pos rfl, if_pos (by omega)])
