/-! distances of villages -/
def dst (N : Int → Int) (d u v : Int) : Int := su (fun t => if sd N d u t < 0 ∨ sd N d v t < 0 then 0 else far N (sd N d u t) (sd N d v t)) 6
theorem dst_t {N : Int → Int} {d u v t : Int} (F : OF N) : 0 ≤ (if sd N d u t < 0 ∨ sd N d v t < 0 then 0 else far N (sd N d u t) (sd N d v t)) ∧ (if sd N d u t < 0 ∨ sd N d v t < 0 then 0 else far N (sd N d u t) (sd N d v t)) ≤ 32 := by
  have a := sd_bd (d := d) (v := u) (t := t) F.1.1
  have b := sd_bd (d := d) (v := v) (t := t) F.1.1
  split
  · omega
  · exact far_bd F (by omega) (by omega) (by omega) (by omega)
theorem dst_bd {N : Int → Int} {d u v : Int} (F : OF N) : 0 ≤ dst N d u v ∧ dst N d u v ≤ 192 := by
  have := su_bd (f := fun t => if sd N d u t < 0 ∨ sd N d v t < 0 then 0 else far N (sd N d u t) (sd N d v t)) (B := 32) (n := 6) (by omega) (by omega) (fun t _ _ => dst_t F)
  unfold dst
  omega
theorem L_listenTo {N : Int → Int} {h0 : am_H} {v d : Int} {P : am_H → Prop} (O : OP N) (F : OF N) (C : OA N) (v0 : 0 ≤ v) (v1 : v < 12) (H : ∀ h, (∀ p, p ≠ 23 → p ≠ 34 → h p = h0 p) → (∀ j, h 34 j = if 6 * v ≤ j ∧ j < 6 * v + 6 then sd N d v (j - 6 * v) else h0 34 j) → P h) : ∀ x3 h, 0 ≤ x3 → x3 ≤ 6 → PR h N → AR h N → (∀ p, p ≠ 23 → p ≠ 34 → h p = h0 p) → (∀ j, h 34 j = if 6 * v ≤ j ∧ j < 6 * v + x3 then sd N d v (j - 6 * v) else h0 34 j) → am_x (am_cd 3) 176 (am_qv P) 0 2 [some (.inr (.inr 33)), some (.inl v), some (.inl d), some (.inl x3)] [] h := by
  refine upto 6 (fun x3 ih h a0 a1 PP AA a2 a3 => ?_)
  refine g_Dialects_listenTo_2 ⟨fun hc => H h a2 (fun j => by rw [a3 j, show x3 = 6 by omega]), fun hc => ⟨⟨by omega, by omega⟩, am_lifti (Nat.le_of_ble_eq_true rfl) (S_saidBy O F C PP AA (fun h1 f1 => ⟨⟨by omega, by omega⟩, ?_⟩))⟩⟩
  have f : ∀ p, p ≠ 23 → p ≠ 34 → am_up h1 34 (6 * v + x3) (sd N d v x3) p = h p := fun p p1 p2 => (up_ne p2).trans (f1 p p1)
  refine ih hc _ (by omega) (by omega) (PR_of (f _ (by decide) (by decide)) (f _ (by decide) (by decide)) (f _ (by decide) (by decide)) (f _ (by decide) (by decide)) PP) (AR_of (by rw [f 17 (by decide) (by decide)]) (f _ (by decide) (by decide)) (f _ (by decide) (by decide)) (f _ (by decide) (by decide)) (f _ (by decide) (by decide)) (f _ (by decide) (by decide)) AA) (fun p p1 p2 => (f p p1 p2).trans (a2 p p1 p2)) (fun j => ?_)
  rw [up_same]
  by_cases q : j = 6 * v + x3
  · rw [if_pos q, if_pos (by omega), q, show 6 * v + x3 - 6 * v = x3 by omega]
  · rw [if_neg q, f1 34 (by decide), a3 j]
    by_cases k : 6 * v ≤ j ∧ j < 6 * v + x3
    · rw [if_pos k, if_pos (by omega)]
    · rw [if_neg k, if_neg (by omega)]
theorem S_listenTo {N : Int → Int} {h : am_H} {v d : Int} {P : am_H → Prop} (O : OP N) (F : OF N) (C : OA N) (v0 : 0 ≤ v) (v1 : v < 12) (PP : PR h N) (AA : AR h N) (H : ∀ h1, (∀ p, p ≠ 23 → p ≠ 34 → h1 p = h p) → (∀ j, h1 34 j = if 6 * v ≤ j ∧ j < 6 * v + 6 then sd N d v (j - 6 * v) else h 34 j) → P h1) : ∃ h_, am_cd 4 176 [.inr (.inr 33), .inl v, .inl d] h none h_ ∧ P h_ :=
  e_Dialects_listenTo (L_listenTo O F C v0 v1 H 0 h (by omega) (by omega) PP AA (fun _ _ _ => rfl) (fun j => by rw [if_neg (by omega)]))
theorem L_dapart {N : Int → Int} {h0 : am_H} {u v d : Int} {P : Int → am_H → Prop} (F : OF N) (u0 : 0 ≤ u) (u1 : u < 12) (v0 : 0 ≤ v) (v1 : v < 12) (hu : ∀ t, 0 ≤ t → t < 6 → h0 34 (6 * u + t) = sd N d u t) (hv : ∀ t, 0 ≤ t → t < 6 → h0 34 (6 * v + t) = sd N d v t) (H : ∀ h, (∀ p, p ≠ 15 → p ≠ 16 → h p = h0 p) → MR h N → P (dst N d u v) h) : ∀ x4 x3 h, 0 ≤ x4 → x4 ≤ 6 → FR h N → MR h N → (∀ p, p ≠ 15 → p ≠ 16 → h p = h0 p) → x3 = su (fun t => if sd N d u t < 0 ∨ sd N d v t < 0 then 0 else far N (sd N d u t) (sd N d v t)) x4 → am_x (am_cd 3) 177 (am_qi P) 0 5 [some (.inr (.inr 33)), some (.inl u), some (.inl v), some (.inl x3), some (.inl x4), none, none] [] h := by
  refine upto 6 (fun x4 ih x3 h a0 a1 R M a2 a3 => ?_)
  have b := su_bd (f := fun t => if sd N d u t < 0 ∨ sd N d v t < 0 then 0 else far N (sd N d u t) (sd N d v t)) (B := 32) (n := x4) (by omega) a0 (fun t _ _ => dst_t F)
  refine g_Dialects_apart_5 ⟨fun hc => ?_, fun hc => ?_⟩
  · rw [a3, show x4 = 6 by omega]; exact H h a2 M
  · have eu := hu x4 a0 hc
    have ev := hv x4 a0 hc
    rw [a2 34 (by decide) (by decide), eu, ev]
    have su_ := sd_bd (d := d) (v := u) (t := x4) F.1.1
    have sv_ := sd_bd (d := d) (v := v) (t := x4) F.1.1
    refine ⟨⟨by omega, by omega, by omega, by omega, by omega, by omega⟩, fun c => ⟨by omega, ih hc _ _ (by omega) (by omega) R M a2 ?_⟩, fun c => ⟨fun c2 => ⟨by omega, ih hc _ _ (by omega) (by omega) R M a2 ?_⟩, fun c2 => am_lifti (Nat.le_of_ble_eq_true rfl) (S_apart F (by omega) (by omega) (by omega) (by omega) R M (fun h1 f1 M1 => ?_))⟩⟩
    · rw [su_1 a0, if_pos (by omega)]; omega
    · rw [su_1 a0, if_pos (by omega)]; omega
    · have fb := far_bd F (show 0 ≤ sd N d u x4 by omega) (by omega) (show 0 ≤ sd N d v x4 by omega) (by omega)
      refine ⟨⟨by omega, by omega⟩, ih hc _ _ (by omega) (by omega) (FR_of (by rw [f1 11 (by decide) (by decide)]) (f1 _ (by decide) (by decide)) (f1 _ (by decide) (by decide)) R) M1 (fun p p1 p2 => (f1 p p1 p2).trans (a2 p p1 p2)) ?_⟩
      rw [su_1 a0, if_neg (by omega)]; omega
theorem S_dapart {N : Int → Int} {h : am_H} {u v d : Int} {P : Int → am_H → Prop} (F : OF N) (u0 : 0 ≤ u) (u1 : u < 12) (v0 : 0 ≤ v) (v1 : v < 12) (hu : ∀ t, 0 ≤ t → t < 6 → h 34 (6 * u + t) = sd N d u t) (hv : ∀ t, 0 ≤ t → t < 6 → h 34 (6 * v + t) = sd N d v t) (R : FR h N) (M : MR h N) (H : ∀ h1, (∀ p, p ≠ 15 → p ≠ 16 → h1 p = h p) → MR h1 N → P (dst N d u v) h1) : ∃ a_ h_, am_cd 4 177 [.inr (.inr 33), .inl u, .inl v] h (some (.inl a_)) h_ ∧ P a_ h_ :=
  e_Dialects_apart (L_dapart F u0 u1 v0 v1 hu hv H 0 0 h (by omega) (by omega) R M (fun _ _ _ => rfl) (su_0 (by omega)).symm)
theorem MR_of {h h1 : am_H} {N : Int → Int} (e : h1 15 = h 15) (H : MR h N) : MR h1 N := by
  unfold MR
  rw [e]; exact H
theorem S_between {N : Int → Int} {h : am_H} {u v d : Int} {P : Int → am_H → Prop} (O : OP N) (F : OF N) (C : OA N) (u0 : 0 ≤ u) (u1 : u < 12) (v0 : 0 ≤ v) (v1 : v < 12) (PP : PR h N) (AA : AR h N) (R : FR h N) (M : MR h N) (H : ∀ h1, (∀ p, p ≠ 15 → p ≠ 16 → p ≠ 23 → p ≠ 34 → h1 p = h p) → MR h1 N → P (dst N d u v) h1) : ∃ a_ h_, am_cd 5 203 [.inr (.inr 33), .inl u, .inl v, .inl d] h (some (.inl a_)) h_ ∧ P a_ h_ := by
  refine e_Dialects_between (am_liftv (Nat.le_of_ble_eq_true rfl) (S_listenTo O F C u0 u1 PP AA (fun h1 f1 w1 => ?_)))
  have PP1 := PR_of (f1 _ (by decide) (by decide)) (f1 _ (by decide) (by decide)) (f1 _ (by decide) (by decide)) (f1 _ (by decide) (by decide)) PP
  have AA1 := AR_of (by rw [f1 17 (by decide) (by decide)]) (f1 _ (by decide) (by decide)) (f1 _ (by decide) (by decide)) (f1 _ (by decide) (by decide)) (f1 _ (by decide) (by decide)) (f1 _ (by decide) (by decide)) AA
  refine am_liftv (Nat.le_of_ble_eq_true rfl) (S_listenTo O F C v0 v1 PP1 AA1 (fun h2 f2 w2 => ?_))
  have f : ∀ p, p ≠ 23 → p ≠ 34 → h2 p = h p := fun p p1 p2 => (f2 p p1 p2).trans (f1 p p1 p2)
  refine am_lifti (Nat.le_of_ble_eq_true rfl) (S_dapart F u0 u1 v0 v1 (fun t t0 t1 => ?_) (fun t t0 t1 => ?_) (FR_of (by rw [f 11 (by decide) (by decide)]) (f _ (by decide) (by decide)) (f _ (by decide) (by decide)) R) (MR_of (f _ (by decide) (by decide)) M) (fun h3 f3 M3 => H h3 (fun p p1 p2 p3 p4 => (f3 p p1 p2).trans (f p p3 p4)) M3))
  · rw [w2]
    by_cases q : u = v
    · subst q
      rw [if_pos (by omega), show 6 * u + t - 6 * u = t by omega]
    · rw [if_neg (by omega), w1, if_pos (by omega), show 6 * u + t - 6 * u = t by omega]
  · rw [w2, if_pos (by omega), show 6 * v + t - 6 * v = t by omega]
def bgF (h0 h : am_H) : Prop := (∀ p, p ≠ 15 → p ≠ 16 → p ≠ 23 → p ≠ 33 → p ≠ 34 → p ≠ 35 → p ≠ 36 → h p = h0 p) ∧ ∀ j, j ≠ 9 → h 33 j = h0 33 j
theorem L_begin42 {N : Int → Int} {h0 : am_H} {v d n : Int} {P : am_H → Prop} (F : OF N) (v0 : 0 ≤ v) (v1 : v < n) (n1 : n ≤ 10) (H : ∀ h, FR h N → MR h N → (∀ p, p ≠ 15 → p ≠ 16 → p ≠ 35 → h p = h0 p) → (∀ j, (j < 10 * v ∨ 10 * v + v ≤ j) → h 35 j = h0 35 j) → (∀ u, 0 ≤ u → u < v → h 35 (10 * v + u) = dst N d u v) → am_x (am_cd 4) 204 (am_qv P) 0 26 [some (.inr (.inr 33)), some (.inl d), some (.inl (v + 1)), none] [] h) (hs : ∀ u t, 0 ≤ u → u ≤ v → 0 ≤ t → t < 6 → h0 34 (6 * u + t) = sd N d u t) : ∀ x3 h, 0 ≤ x3 → x3 ≤ v → FR h N → MR h N → (∀ p, p ≠ 15 → p ≠ 16 → p ≠ 35 → h p = h0 p) → (∀ j, (j < 10 * v ∨ 10 * v + x3 ≤ j) → h 35 j = h0 35 j) → (∀ u, 0 ≤ u → u < x3 → h 35 (10 * v + u) = dst N d u v) → am_x (am_cd 4) 204 (am_qv P) 0 42 [some (.inr (.inr 33)), some (.inl d), some (.inl v), some (.inl x3)] [] h := by
  refine upto v (fun x3 ih h a0 a1 R M a2 a3 a4 => ?_)
  refine g_Dialects_begin_42 ⟨fun hc => ⟨by omega, H h R M a2 (fun j hj => a3 j (by omega)) (fun u u0 u1 => a4 u u0 (by omega))⟩, fun hc => ⟨⟨by omega, by omega⟩, am_lifti (Nat.le_of_ble_eq_true rfl) (S_dapart (d := d) F a0 (by omega) v0 (by omega) (fun t t0 t1 => by rw [a2 34 (by decide) (by decide) (by decide)]; exact hs x3 t a0 (by omega) t0 t1) (fun t t0 t1 => by rw [a2 34 (by decide) (by decide) (by decide)]; exact hs v t v0 (by omega) t0 t1) R M (fun h1 f1 M1 => ⟨⟨by omega, by omega⟩, ?_⟩))⟩⟩
  have f : ∀ p, p ≠ 15 → p ≠ 16 → p ≠ 35 → am_up h1 35 (10 * v + x3) (dst N d x3 v) p = h p := fun p p1 p2 p3 => (up_ne p3).trans (f1 p p1 p2)
  refine ih hc _ (by omega) (by omega) (FR_of (by rw [f 11 (by decide) (by decide) (by decide)]) (f _ (by decide) (by decide) (by decide)) (f _ (by decide) (by decide) (by decide)) R) (MR_of (up_ne (by decide)) M1) (fun p p1 p2 p3 => (f p p1 p2 p3).trans (a2 p p1 p2 p3)) (fun j hj => ?_) (fun u u0 u1 => ?_)
  · rw [up_same, if_neg (by omega), f1 35 (by decide) (by decide)]; exact a3 j (by omega)
  · rw [up_same]
    by_cases q : u = x3
    · rw [if_pos (by omega), q]
    · rw [if_neg (by omega), f1 35 (by decide) (by decide)]; exact a4 u u0 (by omega)
theorem L_begin26 {N : Int → Int} {h0 : am_H} {d n : Int} {P : am_H → Prop} (O : OP N) (F : OF N) (C : OA N) (n0 : 0 ≤ n) (n1 : n ≤ 10) (H : ∀ h, MR h N → (∀ p, p ≠ 15 → p ≠ 16 → p ≠ 23 → p ≠ 34 → p ≠ 35 → h p = h0 p) → (∀ u v, 0 ≤ u → u < v → v < n → h 35 (10 * v + u) = dst N d u v) → P h) (h9 : h0 33 9 = n) (R0 : FR h0 N) (PP0 : PR h0 N) (AA0 : AR h0 N) : ∀ x2 h, 0 ≤ x2 → x2 ≤ n → MR h N → (∀ p, p ≠ 15 → p ≠ 16 → p ≠ 23 → p ≠ 34 → p ≠ 35 → h p = h0 p) → (∀ u t, 0 ≤ u → u < x2 → 0 ≤ t → t < 6 → h 34 (6 * u + t) = sd N d u t) → (∀ u v, 0 ≤ u → u < v → v < x2 → h 35 (10 * v + u) = dst N d u v) → am_x (am_cd 4) 204 (am_qv P) 0 26 [some (.inr (.inr 33)), some (.inl d), some (.inl x2), none] [] h := by
  refine upto n (fun x2 ih h a0 a1 M a2 a3 a4 => ?_)
  have f0 : ∀ p, p ≠ 15 → p ≠ 16 → p ≠ 23 → p ≠ 34 → p ≠ 35 → h p = h0 p := a2
  refine g_Dialects_begin_26 ?_
  rw [a2 33 (by decide) (by decide) (by decide) (by decide) (by decide), h9]
  have PP : PR h N := PR_of (a2 _ (by decide) (by decide) (by decide) (by decide) (by decide)) (a2 _ (by decide) (by decide) (by decide) (by decide) (by decide)) (a2 _ (by decide) (by decide) (by decide) (by decide) (by decide)) (a2 _ (by decide) (by decide) (by decide) (by decide) (by decide)) PP0
  have AA : AR h N := AR_of (by rw [a2 17 (by decide) (by decide) (by decide) (by decide) (by decide)]) (a2 _ (by decide) (by decide) (by decide) (by decide) (by decide)) (a2 _ (by decide) (by decide) (by decide) (by decide) (by decide)) (a2 _ (by decide) (by decide) (by decide) (by decide) (by decide)) (a2 _ (by decide) (by decide) (by decide) (by decide) (by decide)) (a2 _ (by decide) (by decide) (by decide) (by decide) (by decide)) AA0
  have R : FR h N := FR_of (by rw [a2 11 (by decide) (by decide) (by decide) (by decide) (by decide)]) (a2 _ (by decide) (by decide) (by decide) (by decide) (by decide)) (a2 _ (by decide) (by decide) (by decide) (by decide) (by decide)) R0
  refine ⟨fun hc => H h M a2 (fun u v u0 u1 v1 => a4 u v u0 u1 (by omega)), fun hc => am_liftv (Nat.le_of_ble_eq_true rfl) (S_listenTo O F C a0 (by omega) PP AA (fun h1 f1 w1 => ?_))⟩
  refine L_begin42 (h0 := h1) F a0 hc n1 (fun h2 R2 M2 b2 b3 b4 => ih hc h2 (by omega) (by omega) M2 (fun p p1 p2 p3 p4 p5 => (b2 p p1 p2 p5).trans ((f1 p p3 p4).trans (a2 p p1 p2 p3 p4 p5))) (fun u t u0 u1 t0 t1 => ?_) (fun u v u0 u1 v1 => ?_)) (fun u t u0 u1 t0 t1 => ?_) 0 h1 (by omega) a0 (FR_of (by rw [f1 11 (by decide) (by decide)]) (f1 _ (by decide) (by decide)) (f1 _ (by decide) (by decide)) R) (MR_of (f1 _ (by decide) (by decide)) M) (fun _ _ _ _ => rfl) (fun _ _ => rfl) (fun u _ _ => by omega)
  · rw [b2 34 (by decide) (by decide) (by decide), w1]
    by_cases q : u = x2
    · subst q; rw [if_pos (by omega), show 6 * u + t - 6 * u = t by omega]
    · rw [if_neg (by omega)]; exact a3 u t u0 (by omega) t0 t1
  · by_cases q : v = x2
    · subst q; exact b4 u u0 u1
    · rw [b3 _ (by omega), f1 35 (by decide) (by decide)]; exact a4 u v u0 u1 (by omega)
  · rw [w1]
    by_cases q : u = x2
    · subst q; rw [if_pos (by omega), show 6 * u + t - 6 * u = t by omega]
    · rw [if_neg (by omega)]; exact a3 u t u0 (by omega) t0 t1
theorem S_begin {N : Int → Int} {h : am_H} {d : Int} {P : am_H → Prop} (L : OL N) (O : OP N) (F : OF N) (C : OA N) (hn : N 0 ≤ 10) (LL : LR h N) (R : FR h N) (PP : PR h N) (AA : AR h N) (M : MR h N) (H : ∀ h1, bgF h h1 → MR h1 N → h1 33 9 = N 0 → (∀ j, 0 ≤ j → j < 40 → h1 36 j = 0) → (∀ u v, 0 ≤ u → u < v → v < N 0 → h1 35 (10 * v + u) = dst N d u v) → P h1) : ∃ h_, am_cd 5 204 [.inr (.inr 33), .inl d] h none h_ ∧ P h_ := by
  refine e_Dialects_begin (am_liftv (Nat.le_of_ble_eq_true rfl) (S_fill al36 (by decide) (by decide) (fun h1 f1 z1 => ?_)))
  have e1 : h1 1 0 = N 0 := by rw [f1 1 (by decide)]; exact LL.1
  rw [e1, show min (N 0) 10 = N 0 by omega]
  have g : ∀ p, p ≠ 33 → p ≠ 36 → am_up h1 33 9 (N 0) p = h p := fun p p1 p2 => (up_ne p1).trans (f1 p p2)
  refine L_begin26 (h0 := am_up h1 33 9 (N 0)) O F C L.1.1 hn (fun h2 M2 b2 b3 => H h2 ⟨fun p p1 p2 p3 p4 p5 p6 p7 => (b2 p p1 p2 p3 p5 p6).trans (g p p4 p7), fun j hj => ?_⟩ M2 ?_ (fun j j0 j1 => ?_) b3) (by rw [up_same, if_pos rfl]) ?_ ?_ ?_ 0 _ (by omega) L.1.1 (MR_of (g _ (by decide) (by decide)) M) (fun _ _ _ _ _ _ => rfl) (fun u t _ _ => by omega) (fun u v _ _ => by omega)
  · rw [b2 33 (by decide) (by decide) (by decide) (by decide) (by decide), up_same, if_neg hj, f1 33 (by decide)]
  · rw [b2 33 (by decide) (by decide) (by decide) (by decide) (by decide), up_same, if_pos rfl]
  · rw [b2 36 (by decide) (by decide) (by decide) (by decide) (by decide), up_ne (by decide)]; exact z1 j j0 (by omega)
  · exact FR_of (by rw [g 11 (by decide) (by decide)]) (g _ (by decide) (by decide)) (g _ (by decide) (by decide)) R
  · exact PR_of (g _ (by decide) (by decide)) (g _ (by decide) (by decide)) (g _ (by decide) (by decide)) (g _ (by decide) (by decide)) PP
  · exact AR_of (by rw [g 17 (by decide) (by decide)]) (g _ (by decide) (by decide)) (g _ (by decide) (by decide)) (g _ (by decide) (by decide)) (g _ (by decide) (by decide)) (g _ (by decide) (by decide)) AA
/-! the reference -/
theorem L_Mapart88 {N : Int → Int} {h : am_H} {d u v : Int} {P : am_H → Prop} (L : OL N) (F : OF N) (u0 : 0 ≤ u) (u1 : u < N 0) (v0 : 0 ≤ v) (v1 : v < N 0) (hs : ∀ w t, 0 ≤ w → w < N 0 → 0 ≤ t → t < 6 → h 62 (6 * w + t) = sd N d w t) (hf : ∀ f g, 0 ≤ f → f < N 2 → 0 ≤ g → g < N 2 → h 70 (30 * f + g) = far N f g) (H : am_x (am_cd 3) 197 (am_qv P) 0 72 [some (.inr (.inr 56)), none, some (.inl u), some (.inl (v + 1)), none, none, none, none] [] (am_up h 69 (12 * u + v) (dst N d u v))) : ∀ x5 x4, 0 ≤ x5 → x5 ≤ 6 → x4 = su (fun t => if sd N d u t < 0 ∨ sd N d v t < 0 then 0 else far N (sd N d u t) (sd N d v t)) x5 → am_x (am_cd 3) 197 (am_qv P) 0 88 [some (.inr (.inr 56)), none, some (.inl u), some (.inl v), some (.inl x4), some (.inl x5), none, none] [] h := by
  have lN := L.1
  have fN := F.1
  refine upto 6 (fun x5 ih x4 a0 a1 a3 => ?_)
  have b := su_bd (f := fun t => if sd N d u t < 0 ∨ sd N d v t < 0 then 0 else far N (sd N d u t) (sd N d v t)) (B := 32) (n := x5) (by omega) a0 (fun t _ _ => dst_t F)
  refine g_Mo_findApart_88 ⟨fun hc => ⟨⟨by omega, by omega, by omega, by omega⟩, ?_⟩, fun hc => ?_⟩
  · rw [a3, show x5 = 6 by omega]; exact H
  · rw [hs u x5 u0 u1 a0 hc, hs v x5 v0 v1 a0 hc]
    have su_ := sd_bd (d := d) (v := u) (t := x5) fN.1
    have sv_ := sd_bd (d := d) (v := v) (t := x5) fN.1
    refine ⟨⟨by omega, by omega, by omega, by omega, by omega, by omega⟩, fun c => ⟨⟨by omega, by omega⟩, ih hc _ (by omega) (by omega) ?_⟩, fun c => ⟨fun c2 => ?_, fun c2 => ⟨⟨by omega, by omega⟩, ih hc _ (by omega) (by omega) ?_⟩⟩⟩
    · rw [su_1 a0, if_pos (by omega)]; omega
    · rw [hf _ _ c (by omega) c2 (by omega)]
      have fb := far_bd F (show 0 ≤ sd N d u x5 by omega) (by omega) (show 0 ≤ sd N d v x5 by omega) (by omega)
      refine ⟨⟨by omega, by omega, by omega, by omega, by omega⟩, ih hc _ (by omega) (by omega) ?_⟩
      rw [su_1 a0, if_neg (by omega)]; omega
    · rw [su_1 a0, if_pos (by omega)]; omega
def faF (h0 h : am_H) : Prop := ∀ p, p ≠ 60 → p ≠ 61 → p ≠ 62 → p ≠ 69 → p ≠ 70 → h p = h0 p
theorem L_Mapart72 {N : Int → Int} {h0 : am_H} {d u : Int} {P : am_H → Prop} (L : OL N) (F : OF N) (eN : h0 57 = N) (u0 : 0 ≤ u) (u1 : u < N 0) (hs : ∀ w t, 0 ≤ w → w < N 0 → 0 ≤ t → t < 6 → h0 62 (6 * w + t) = sd N d w t) (hf : ∀ f g, 0 ≤ f → f < N 2 → 0 ≤ g → g < N 2 → h0 70 (30 * f + g) = far N f g) (H : ∀ h, (∀ p, p ≠ 69 → h p = h0 p) → (∀ w v, 0 ≤ w → w ≤ u → 0 ≤ v → v < N 0 → h 69 (12 * w + v) = dst N d w v) → am_x (am_cd 3) 197 (am_qv P) 0 60 [some (.inr (.inr 56)), none, some (.inl (u + 1)), none, none, none, none, none] [] h) : ∀ x3 h, 0 ≤ x3 → x3 ≤ N 0 → (∀ p, p ≠ 69 → h p = h0 p) → (∀ w v, 0 ≤ w → 0 ≤ v → v < N 0 → (w < u ∨ w = u ∧ v < x3) → h 69 (12 * w + v) = dst N d w v) → am_x (am_cd 3) 197 (am_qv P) 0 72 [some (.inr (.inr 56)), none, some (.inl u), some (.inl x3), none, none, none, none] [] h := by
  have lN := L.1
  refine upto (N 0) (fun x3 ih h a0 a1 a2 a3 => ?_)
  refine g_Mo_findApart_72 ?_
  rw [a2 57 (by decide), eN]
  refine ⟨fun hc => ⟨by omega, H h a2 (fun w v w0 w1 v0 v1 => a3 w v w0 v0 v1 (by omega))⟩, fun hc => L_Mapart88 (d := d) L F u0 u1 a0 hc (fun w t w0 w1 t0 t1 => by rw [a2 62 (by decide)]; exact hs w t w0 w1 t0 t1) (fun f g f0 f1 g0 g1 => by rw [a2 70 (by decide)]; exact hf f g f0 f1 g0 g1) (ih hc _ (by omega) (by omega) (fun p hp => (up_ne hp).trans (a2 p hp)) (fun w v w0 v0 v1 q => ?_)) 0 0 (by omega) (by omega) (su_0 (by omega)).symm⟩
  rw [up_same]
  by_cases k : 12 * w + v = 12 * u + x3
  · rw [if_pos k, show w = u by omega, show v = x3 by omega]
  · rw [if_neg k]; exact a3 w v w0 v0 v1 (by omega)
theorem L_Mapart60 {N : Int → Int} {h0 : am_H} {d : Int} {P : am_H → Prop} (L : OL N) (F : OF N) (eN : h0 57 = N) (hs : ∀ w t, 0 ≤ w → w < N 0 → 0 ≤ t → t < 6 → h0 62 (6 * w + t) = sd N d w t) (hf : ∀ f g, 0 ≤ f → f < N 2 → 0 ≤ g → g < N 2 → h0 70 (30 * f + g) = far N f g) (H : ∀ h, (∀ p, p ≠ 69 → h p = h0 p) → (∀ w v, 0 ≤ w → w < N 0 → 0 ≤ v → v < N 0 → h 69 (12 * w + v) = dst N d w v) → P h) : ∀ x2 h, 0 ≤ x2 → x2 ≤ N 0 → (∀ p, p ≠ 69 → h p = h0 p) → (∀ w v, 0 ≤ w → w < x2 → 0 ≤ v → v < N 0 → h 69 (12 * w + v) = dst N d w v) → am_x (am_cd 3) 197 (am_qv P) 0 60 [some (.inr (.inr 56)), none, some (.inl x2), none, none, none, none, none] [] h := by
  refine upto (N 0) (fun x2 ih h a0 a1 a2 a3 => ?_)
  refine g_Mo_findApart_60 ?_
  rw [a2 57 (by decide), eN]
  exact ⟨fun hc => H h a2 (fun w v w0 w1 v0 v1 => a3 w v w0 (by omega) v0 v1), fun hc => L_Mapart72 L F eN a0 hc hs hf (fun h b2 b3 => ih hc h (by omega) (by omega) b2 (fun w v w0 w1 v0 v1 => b3 w v w0 (by omega) v0 v1)) 0 h (by omega) (by omega) a2 (fun w v w0 v0 v1 q => a3 w v w0 (by omega) v0 v1)⟩
theorem L_Mapart19 {N : Int → Int} {h0 : am_H} {f : Int} {P : am_H → Prop} (F : OF N) (eN : h0 57 = N) (f0 : 0 ≤ f) (f1 : f < N 2) (H : ∀ h, (∀ p, p ≠ 60 → p ≠ 70 → h p = h0 p) → (∀ a b, 0 ≤ a → a ≤ f → 0 ≤ b → b < N 2 → h 70 (30 * a + b) = far N a b) → am_x (am_cd 3) 197 (am_qv P) 0 7 [some (.inr (.inr 56)), none, some (.inl (f + 1)), none, none, none, none, none] [] h) : ∀ x3 h, 0 ≤ x3 → x3 ≤ N 2 → (∀ p, p ≠ 60 → p ≠ 70 → h p = h0 p) → (∀ a b, 0 ≤ a → 0 ≤ b → b < N 2 → (a < f ∨ a = f ∧ b < x3) → h 70 (30 * a + b) = far N a b) → am_x (am_cd 3) 197 (am_qv P) 0 19 [some (.inr (.inr 56)), none, some (.inl f), some (.inl x3), none, none, none, none] [] h := by
  have fN := F.1
  refine upto (N 2) (fun x3 ih h a0 a1 a2 a3 => ?_)
  have e57 : h 57 = N := (a2 57 (by decide) (by decide)).trans eN
  refine g_Mo_findApart_19 ?_
  rw [e57]
  refine ⟨fun hc => ⟨by omega, H h a2 (fun a b a0 a1 b0 b1 => a3 a b a0 b0 b1 (by omega))⟩, fun hc => ⟨⟨by omega, by omega⟩, am_lifti (Nat.le_of_ble_eq_true rfl) (S_MfarOf F e57 f0 f1 a0 hc (fun h1 g1 => ⟨⟨by omega, by omega⟩, ih hc _ (by omega) (by omega) (fun p p1 p2 => (up_ne p2).trans ((g1 p p1).trans (a2 p p1 p2))) (fun a b a0 b0 b1 q => ?_)⟩))⟩⟩
  rw [up_same]
  by_cases k : 30 * a + b = 30 * f + x3
  · rw [if_pos k, show a = f by omega, show b = x3 by omega]
  · rw [if_neg k, g1 70 (by decide)]; exact a3 a b a0 b0 b1 (by omega)
theorem L_Mapart7 {N : Int → Int} {h0 : am_H} {P : am_H → Prop} (F : OF N) (eN : h0 57 = N) (H : ∀ h, (∀ p, p ≠ 60 → p ≠ 70 → h p = h0 p) → (∀ a b, 0 ≤ a → a < N 2 → 0 ≤ b → b < N 2 → h 70 (30 * a + b) = far N a b) → am_x (am_cd 3) 197 (am_qv P) 0 60 [some (.inr (.inr 56)), none, some (.inl 0), none, none, none, none, none] [] h) : ∀ x2 h, 0 ≤ x2 → x2 ≤ N 2 → (∀ p, p ≠ 60 → p ≠ 70 → h p = h0 p) → (∀ a b, 0 ≤ a → a < x2 → 0 ≤ b → b < N 2 → h 70 (30 * a + b) = far N a b) → am_x (am_cd 3) 197 (am_qv P) 0 7 [some (.inr (.inr 56)), none, some (.inl x2), none, none, none, none, none] [] h := by
  refine upto (N 2) (fun x2 ih h a0 a1 a2 a3 => ?_)
  have e57 : h 57 = N := (a2 57 (by decide) (by decide)).trans eN
  refine g_Mo_findApart_7 ?_
  rw [e57]
  exact ⟨fun hc => H h a2 (fun a b a0 a1 b0 b1 => a3 a b a0 (by omega) b0 b1), fun hc => L_Mapart19 F eN a0 hc (fun h b2 b3 => ih hc h (by omega) (by omega) b2 (fun a b a0 a1 b0 b1 => b3 a b a0 (by omega) b0 b1)) 0 h (by omega) F.1.1 a2 (fun a b a0 b0 b1 q => a3 a b a0 (by omega) b0 b1)⟩
theorem S_MfindApart {N : Int → Int} {h : am_H} {d : Int} {P : am_H → Prop} (L : OL N) (O : OP N) (F : OF N) (C : OA N) (eN : h 57 = N) (H : ∀ h1, faF h h1 → (∀ w v, 0 ≤ w → w < N 0 → 0 ≤ v → v < N 0 → h1 69 (12 * w + v) = dst N d w v) → P h1) : ∃ h_, am_cd 4 197 [.inr (.inr 56), .inl d] h none h_ ∧ P h_ := by
  refine e_Mo_findApart (am_liftv (Nat.le_of_ble_eq_true rfl) (S_Msettle (d := d) O L F C eN (fun h1 f1 J1 s1 => ?_)))
  have e57 : h1 57 = N := (f1 57 (by decide) (by decide)).trans eN
  refine L_Mapart7 F e57 (fun h2 f2 w2 => ?_) 0 h1 (by omega) F.1.1 (fun _ _ _ => rfl) (fun a b _ _ => by omega)
  refine L_Mapart60 (d := d) L F ((f2 57 (by decide) (by decide)).trans e57) (fun w t w0 w1 t0 t1 => by rw [f2 62 (by decide) (by decide)]; exact s1 w t w0 w1 t0 t1) w2 (fun h3 f3 w3 => H h3 (fun p p1 p2 p3 p4 p5 => (f3 p p4).trans ((f2 p p1 p5).trans (f1 p p2 p3))) w3) 0 h2 (by omega) L.1.1 (fun _ _ => rfl) (fun w v _ _ => by omega)
